import java.util.ArrayList;
import java.util.NoSuchElementException;

/**
 * A shrinker of programs: classes with methods that call one another. What no kept method can come
 * to is taken away, what is left gets the shortest names that do no harm, and what a name was at
 * first can be found again. Words in capitals are those of the document.
 */
public final class CodeShrinker {
    private static final int MOST_CLASSES = 8;
    private static final int MOST_METHODS = 24;
    private static final int MOST_ITEMS = 5;
    private static final int NAMES = 26;
    private static final int NAME_NEVER_FOUND = 26;
    private static final int ARITIES = 3;

    private static final int SAY = 0;
    private static final int CALL = 1;
    private static final int SELF = 2;

    private static final int MOST_RUNNING = 16;
    private static final int MOST_ITEMS_DONE = 300;

    private static final int NONE = -1;
    private static final int NOTHING_TO_COUNT = -2;
    private static final int FIRST_PARENT_ASKED = 10;

    private final Program program;
    private final Runner runner;
    private final Reach reach;
    private final Families families;
    private int goneInAll;

    public CodeShrinker() {
        program = new Program();
        runner = new Runner();
        reach = new Reach(program);
        families = new Families(program);
        goneInAll = 0;
    }

    public int add(int parent) throws IllegalArgumentException, IllegalStateException {
        require(parent == NONE || isClass(parent));
        int number = program.classes.size();
        if (number >= MOST_CLASSES) {
            throw new IllegalStateException("no room for one more CLASS");
        }
        ProgramClass above = parent == NONE ? null : program.classes.get(parent);
        program.classes.add(new ProgramClass(number, above));
        return number;
    }

    public int method(int of, int name, int arity) throws IllegalArgumentException, IllegalStateException {
        require(isClass(of) && isName(name) && isArity(arity));
        int number = program.methods.size();
        ProgramClass owner = program.classes.get(of);
        if (number >= MOST_METHODS || owner.own(name, arity) != null) {
            throw new IllegalStateException("no room for one more METHOD, or there is one like it");
        }
        ProgramMethod made = new ProgramMethod(number, owner, name, arity);
        program.methods.add(made);
        owner.methods.add(made);
        return number;
    }

    public int item(int m, int kind, int a, int b, int c) throws IllegalArgumentException, IllegalStateException {
        require(isMethod(m) && isItem(kind, a, b, c));
        ProgramMethod of = program.methods.get(m);
        if (of.items.size() >= MOST_ITEMS) {
            throw new IllegalStateException("no room for one more ITEM");
        }
        of.items.add(newItem(kind, a, b, c));
        return of.items.size();
    }

    public void keep(int m, boolean kept) throws IllegalArgumentException {
        require(isMethod(m));
        program.methods.get(m).kept = kept;
    }

    public int run(int of, int name, int arity)
            throws IllegalArgumentException, NoSuchElementException, IllegalStateException {
        require(isClass(of) && isName(name) && isArity(arity));
        return runner.outcomeOf(program.classes.get(of), name, arity);
    }

    public int shrink() {
        int before = program.methods.size();
        reach.mark();
        program.dropUnreached();
        int gone = before - program.methods.size();
        goneInAll += gone;
        return gone;
    }

    public int rename() {
        families.form();
        families.giveNames();
        families.writeNames();
        return families.size;
    }

    public int told(int m, int what) throws IllegalArgumentException {
        require(isMethod(m) && what >= 0 && what <= 7);
        ProgramMethod asked = program.methods.get(m);
        switch (what) {
            case 0:
                return asked.owner.number;
            case 1:
                return asked.name;
            case 2:
                return asked.arity;
            case 3:
                return asked.items.size();
            case 4:
                return asked.kept ? 1 : 0;
            case 5:
                return asked.owner.firstNumber;
            case 6:
                return asked.firstName;
            default:
                return asked.firstNumber;
        }
    }

    public int inside(int m, int i, int what) throws IllegalArgumentException, NoSuchElementException {
        require(isMethod(m) && what >= 0 && what <= 3);
        ProgramMethod asked = program.methods.get(m);
        if (i < 0 || i >= asked.items.size()) {
            throw new NoSuchElementException("no such ITEM");
        }
        return asked.items.get(i).part(what);
    }

    public int trace(int of, int name, int arity) throws IllegalArgumentException, NoSuchElementException {
        require(isClass(of) && (isName(name) || name == NAME_NEVER_FOUND) && isArity(arity));
        ProgramMethod own = program.classes.get(of).own(name, arity);
        if (own == null) {
            throw new NoSuchElementException("the CLASS has no such METHOD");
        }
        return own.firstNumber;
    }

    public int count(int what) {
        switch (what) {
            case 0:
                return program.classes.size();
            case 1:
                return program.methods.size();
            case 2:
                reach.mark();
                return program.liveMethods();
            case 3:
                reach.mark();
                return program.madeClasses();
            case 4:
                return goneInAll;
            default:
                return what >= FIRST_PARENT_ASKED ? parentOf(what - FIRST_PARENT_ASKED) : NOTHING_TO_COUNT;
        }
    }

    private int parentOf(int c) {
        if (!isClass(c)) {
            return NOTHING_TO_COUNT;
        }
        ProgramClass parent = program.classes.get(c).parent;
        return parent == null ? NONE : parent.number;
    }

    private Item newItem(int kind, int a, int b, int c) {
        if (kind == SAY) {
            return new Item(SAY, a, null, NONE, NONE);
        }
        ProgramClass target = kind == CALL && isClass(a) ? program.classes.get(a) : null;
        return new Item(kind, NONE, target, b, c);
    }

    private boolean isClass(int number) {
        return number >= 0 && number < program.classes.size();
    }

    private boolean isMethod(int number) {
        return number >= 0 && number < program.methods.size();
    }

    private boolean isItem(int kind, int a, int b, int c) {
        switch (kind) {
            case SAY:
                return true;
            case CALL:
                return isClass(a) && isName(b) && isArity(c);
            case SELF:
                return isName(b) && isArity(c);
            default:
                return false;
        }
    }

    private static boolean isName(int name) {
        return name >= 0 && name < NAMES;
    }

    private static boolean isArity(int arity) {
        return arity >= 0 && arity < ARITIES;
    }

    private static void require(boolean good) {
        if (!good) {
            throw new IllegalArgumentException("a number out of range, or a CLASS or METHOD that is not there");
        }
    }

    /** A CLASS with the METHODS that it has itself. */
    private static final class ProgramClass {
        final ProgramClass parent;
        final int firstNumber;
        final ArrayList<ProgramMethod> methods;
        int number;
        boolean made;

        ProgramClass(int number, ProgramClass parent) {
            this.parent = parent;
            this.firstNumber = number;
            this.methods = new ArrayList<>();
            this.number = number;
            this.made = false;
        }

        ProgramMethod own(int name, int arity) {
            for (int i = 0; i < methods.size(); i++) {
                ProgramMethod own = methods.get(i);
                if (own.name == name && own.arity == arity) {
                    return own;
                }
            }
            return null;
        }

        /** FINDING; null where the document says none. */
        ProgramMethod find(int name, int arity) {
            for (ProgramClass at = this; at != null; at = at.parent) {
                ProgramMethod own = at.own(name, arity);
                if (own != null) {
                    return own;
                }
            }
            return null;
        }

        boolean isOrIsBelow(ProgramClass other) {
            for (ProgramClass at = this; at != null; at = at.parent) {
                if (at == other) {
                    return true;
                }
            }
            return false;
        }

        boolean isRelatedTo(ProgramClass other) {
            return isOrIsBelow(other) || other.isOrIsBelow(this);
        }
    }

    /** A METHOD; its number now is its place in the program's list. */
    private static final class ProgramMethod {
        final ProgramClass owner;
        final int firstNumber;
        final int firstName;
        final int arity;
        final ArrayList<Item> items;
        int name;
        boolean kept;
        boolean live;

        ProgramMethod(int number, ProgramClass owner, int name, int arity) {
            this.owner = owner;
            this.firstNumber = number;
            this.firstName = name;
            this.arity = arity;
            this.items = new ArrayList<>();
            this.name = name;
            this.kept = false;
            this.live = false;
        }
    }

    /** An ITEM; a CALL holds its CLASS itself, so that a new number needs no change here. */
    private static final class Item {
        final int kind;
        final int value;
        final ProgramClass target;
        final int arity;
        int name;

        Item(int kind, int value, ProgramClass target, int name, int arity) {
            this.kind = kind;
            this.value = value;
            this.target = target;
            this.arity = arity;
            this.name = name;
        }

        int part(int what) {
            switch (what) {
                case 0:
                    return kind;
                case 1:
                    return target == null ? value : target.number;
                case 2:
                    return name;
                default:
                    return arity;
            }
        }
    }

    /** The CLASSES and METHODS, each in the order of their numbers. */
    private static final class Program {
        final ArrayList<ProgramClass> classes;
        final ArrayList<ProgramMethod> methods;

        Program() {
            classes = new ArrayList<>();
            methods = new ArrayList<>();
        }

        int liveMethods() {
            int live = 0;
            for (int m = 0; m < methods.size(); m++) {
                if (methods.get(m).live) {
                    live++;
                }
            }
            return live;
        }

        int madeClasses() {
            int made = 0;
            for (int c = 0; c < classes.size(); c++) {
                if (classes.get(c).made) {
                    made++;
                }
            }
            return made;
        }

        /** SHRINKING, by the marks that Reach has set. */
        void dropUnreached() {
            dropDead(methods);
            for (int c = classes.size() - 1; c >= 0; c--) {
                ProgramClass at = classes.get(c);
                dropDead(at.methods);
                if (!isMadeOrAboveMade(at)) {
                    classes.remove(c);
                }
            }
            for (int c = 0; c < classes.size(); c++) {
                classes.get(c).number = c;
            }
        }

        private boolean isMadeOrAboveMade(ProgramClass asked) {
            for (int c = 0; c < classes.size(); c++) {
                ProgramClass at = classes.get(c);
                if (at.made && at.isOrIsBelow(asked)) {
                    return true;
                }
            }
            return false;
        }

        private static void dropDead(ArrayList<ProgramMethod> list) {
            for (int m = list.size() - 1; m >= 0; m--) {
                if (!list.get(m).live) {
                    list.remove(m);
                }
            }
        }
    }

    /** RUNNING. */
    private static final class Runner {
        private int outcome;
        private int itemsDone;

        int outcomeOf(ProgramClass start, int name, int arity) {
            outcome = 0;
            itemsDone = 0;
            perform(start, name, arity, 1);
            return outcome;
        }

        private void perform(ProgramClass atWork, int name, int arity, int depth) {
            if (depth > MOST_RUNNING) {
                throw new IllegalStateException("too many RUNNING within one another");
            }
            ProgramMethod found = atWork.find(name, arity);
            if (found == null) {
                throw new NoSuchElementException("FINDING gives none");
            }
            for (int i = 0; i < found.items.size(); i++) {
                performItem(found.items.get(i), atWork, depth);
            }
        }

        private void performItem(Item item, ProgramClass atWork, int depth) {
            if (itemsDone >= MOST_ITEMS_DONE) {
                throw new IllegalStateException("too many ITEMS in all");
            }
            itemsDone++;
            if (item.kind == SAY) {
                outcome = 31 * outcome + item.value;
            } else {
                ProgramClass next = item.target == null ? atWork : item.target;
                perform(next, item.name, item.arity, depth + 1);
            }
        }
    }

    /** Marks what is LIVE and what is MADE. */
    private static final class Reach {
        private final Program program;
        private boolean grew;

        Reach(Program program) {
            this.program = program;
            this.grew = false;
        }

        void mark() {
            clearMarks();
            markKept();
            grew = true;
            // Every pass but the last marks at least one METHOD or CLASS more, so this bound is never short.
            for (int pass = 0; grew && pass <= MOST_METHODS + MOST_CLASSES; pass++) {
                grew = false;
                spreadFromLive();
            }
        }

        private void clearMarks() {
            for (int c = 0; c < program.classes.size(); c++) {
                program.classes.get(c).made = false;
            }
            for (int m = 0; m < program.methods.size(); m++) {
                program.methods.get(m).live = false;
            }
        }

        private void markKept() {
            for (int m = 0; m < program.methods.size(); m++) {
                ProgramMethod at = program.methods.get(m);
                if (at.kept) {
                    markLive(at);
                    markMade(at.owner);
                }
            }
        }

        private void spreadFromLive() {
            for (int m = 0; m < program.methods.size(); m++) {
                ProgramMethod at = program.methods.get(m);
                if (at.live) {
                    spread(at);
                }
            }
        }

        private void spread(ProgramMethod from) {
            for (int i = 0; i < from.items.size(); i++) {
                Item item = from.items.get(i);
                if (item.target != null) {
                    markMade(item.target);
                    markLive(item.target.find(item.name, item.arity));
                } else if (item.kind == SELF) {
                    spreadSelf(from.owner, item);
                }
            }
        }

        private void spreadSelf(ProgramClass owner, Item self) {
            for (int c = 0; c < program.classes.size(); c++) {
                ProgramClass at = program.classes.get(c);
                if (at.made && at.isOrIsBelow(owner)) {
                    markLive(at.find(self.name, self.arity));
                }
            }
        }

        private void markLive(ProgramMethod found) {
            if (found != null && !found.live) {
                found.live = true;
                grew = true;
            }
        }

        private void markMade(ProgramClass at) {
            if (!at.made) {
                at.made = true;
                grew = true;
            }
        }
    }

    /**
     * FAMILIES and RENAMING. All in a FAMILY have NAME and ARITY alike, so a FAMILY is told by these
     * and by the set of the CLASSES in which its METHODS and STAND-INS are. A set of CLASSES is an
     * int whose bit c stands for CLASS c.
     */
    private static final class Families {
        private final Program program;
        private final int[] relatives;
        private final int[] names;
        private final int[] arities;
        private final int[] members;
        private final int[] newNames;
        private final boolean[] kept;
        int size;

        Families(Program program) {
            this.program = program;
            this.relatives = new int[MOST_CLASSES];
            this.names = new int[MOST_METHODS];
            this.arities = new int[MOST_METHODS];
            this.members = new int[MOST_METHODS];
            this.newNames = new int[MOST_METHODS];
            this.kept = new boolean[MOST_METHODS];
            this.size = 0;
        }

        /** Starting from METHODS alone, in order, leaves out FAMILIES of STAND-INS and gives the order asked for. */
        void form() {
            seeRelatives();
            size = 0;
            for (int m = 0; m < program.methods.size(); m++) {
                ProgramMethod at = program.methods.get(m);
                int family = familyOf(at.owner, at.name, at.arity);
                if (family == NONE) {
                    family = open(at);
                }
                if (at.kept && family < size) {
                    kept[family] = true;
                }
            }
        }

        void giveNames() {
            for (int f = 0; f < size; f++) {
                newNames[f] = kept[f] ? names[f] : NONE;
            }
            for (int f = 0; f < size; f++) {
                if (!kept[f]) {
                    newNames[f] = leastFreeName(f);
                }
            }
        }

        /** ITEMS come before METHODS, for FINDING must still see the old NAMES. */
        void writeNames() {
            for (int m = 0; m < program.methods.size(); m++) {
                writeItems(program.methods.get(m));
            }
            for (int m = 0; m < program.methods.size(); m++) {
                ProgramMethod at = program.methods.get(m);
                at.name = newNameOf(at.owner, at.name, at.arity);
            }
        }

        private void seeRelatives() {
            int many = Math.min(program.classes.size(), MOST_CLASSES);
            for (int c = 0; c < many; c++) {
                int found = 0;
                for (int d = 0; d < many; d++) {
                    if (program.classes.get(c).isRelatedTo(program.classes.get(d))) {
                        found |= 1 << d;
                    }
                }
                relatives[c] = found;
            }
        }

        private int open(ProgramMethod lowest) {
            int opened = size;
            if (opened < MOST_METHODS) {
                names[opened] = lowest.name;
                arities[opened] = lowest.arity;
                members[opened] = joinedTo(1 << lowest.owner.number, bearers(lowest.name, lowest.arity));
                kept[opened] = false;
                size++;
            }
            return opened;
        }

        /** The CLASSES with a METHOD or a STAND-IN of this NAME and ARITY. */
        private int bearers(int name, int arity) {
            int found = 0;
            for (int m = 0; m < program.methods.size(); m++) {
                ProgramMethod at = program.methods.get(m);
                if (at.name == name && at.arity == arity || standsIn(at, name, arity)) {
                    found |= 1 << at.owner.number;
                }
            }
            return found;
        }

        private static boolean standsIn(ProgramMethod of, int name, int arity) {
            for (int i = 0; i < of.items.size(); i++) {
                Item item = of.items.get(i);
                if (item.kind == SELF && item.name == name && item.arity == arity) {
                    return true;
                }
            }
            return false;
        }

        private int joinedTo(int start, int among) {
            int joined = start;
            for (int step = 0; step < MOST_CLASSES; step++) {
                joined |= among & relatedTo(joined);
            }
            return joined;
        }

        private int relatedTo(int classes) {
            int found = 0;
            for (int c = 0; c < MOST_CLASSES && c < program.classes.size(); c++) {
                if (holds(classes, c)) {
                    found |= relatives[c];
                }
            }
            return found;
        }

        private int leastFreeName(int family) {
            int near = relatedTo(members[family]);
            int taken = 0;
            for (int f = 0; f < size; f++) {
                boolean clash = arities[f] == arities[family] && (members[f] & near) != 0;
                if (clash && newNames[f] != NONE) {
                    taken |= 1 << newNames[f];
                }
            }
            int least = 0;
            while (least < NAMES && holds(taken, least)) {
                least++;
            }
            return least;
        }

        private void writeItems(ProgramMethod of) {
            for (int i = 0; i < of.items.size(); i++) {
                Item item = of.items.get(i);
                if (item.target != null) {
                    ProgramMethod found = item.target.find(item.name, item.arity);
                    item.name = found == null
                            ? NAME_NEVER_FOUND
                            : newNameOf(found.owner, found.name, found.arity);
                } else if (item.kind == SELF) {
                    item.name = newNameOf(of.owner, item.name, item.arity);
                }
            }
        }

        private int newNameOf(ProgramClass owner, int name, int arity) {
            int family = familyOf(owner, name, arity);
            return family == NONE ? NAME_NEVER_FOUND : newNames[family];
        }

        private int familyOf(ProgramClass owner, int name, int arity) {
            for (int f = 0; f < size; f++) {
                if (names[f] == name && arities[f] == arity && holds(members[f], owner.number)) {
                    return f;
                }
            }
            return NONE;
        }

        private static boolean holds(int set, int bit) {
            return (set >> bit & 1) != 0;
        }
    }
}

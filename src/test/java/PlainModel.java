import java.util.ArrayList;
import java.util.HashMap;
import java.util.HashSet;
import java.util.List;
import java.util.Map;
import java.util.NoSuchElementException;
import java.util.Set;
import java.util.TreeMap;
import java.util.TreeSet;

/**
 * The document's words once more, with numbers where the program has objects, and with every STAND-IN
 * and every pair written out where the program has sets. It shares no thought with the program but
 * the document, so that a slip in one shows against the other.
 */
final class PlainModel {
    private static final class Cls {
        int parent;
        int born;
    }

    private static final class Mth {
        int cls;
        int name;
        int arity;
        boolean kept;
        int bornName;
        int bornNumber;
        List<int[]> items = new ArrayList<>();
    }

    /** One of a FAMILY: a METHOD, or a STAND-IN (method -1) for an ITEM. */
    private record Member(int cls, int name, int arity, int method, int[] item) {
    }

    private final List<Cls> classes = new ArrayList<>();
    private final List<Mth> methods = new ArrayList<>();
    private final Set<Integer> live = new TreeSet<>();
    private final Set<Integer> made = new TreeSet<>();
    private int gone = 0;
    private int outcome;
    private int done;

    int add(int parent) {
        bad(parent < -1 || parent >= classes.size());
        full(classes.size() == 8);
        Cls c = new Cls();
        c.parent = parent;
        c.born = classes.size();
        classes.add(c);
        return c.born;
    }

    int method(int of, int name, int arity) {
        bad(noClass(of) || noName(name) || noArity(arity));
        full(methods.size() == 24 || own(of, name, arity) >= 0);
        Mth m = new Mth();
        m.cls = of;
        m.name = name;
        m.arity = arity;
        m.bornName = name;
        m.bornNumber = methods.size();
        methods.add(m);
        return m.bornNumber;
    }

    int item(int m, int kind, int a, int b, int c) {
        bad(noMethod(m) || kind < 0 || kind > 2);
        bad(kind == 1 && noClass(a));
        bad(kind != 0 && (noName(b) || noArity(c)));
        full(methods.get(m).items.size() == 5);
        methods.get(m).items.add(new int[] {kind, kind == 2 ? -1 : a, kind == 0 ? -1 : b, kind == 0 ? -1 : c});
        return methods.get(m).items.size();
    }

    void keep(int m, boolean kept) {
        bad(noMethod(m));
        methods.get(m).kept = kept;
    }

    int run(int of, int name, int arity) {
        bad(noClass(of) || noName(name) || noArity(arity));
        outcome = 0;
        done = 0;
        running(of, name, arity, 1);
        return outcome;
    }

    private void running(int cls, int name, int arity, int depth) {
        full(depth > 16);
        int m = finding(cls, name, arity);
        if (m < 0) {
            throw new NoSuchElementException();
        }
        for (int[] item : methods.get(m).items) {
            done++;
            full(done > 300);
            switch (item[0]) {
                case 0 -> outcome = outcome * 31 + item[1];
                case 1 -> running(item[1], item[2], item[3], depth + 1);
                default -> running(cls, item[2], item[3], depth + 1);
            }
        }
    }

    int shrink() {
        reach();
        Set<Integer> classesLeft = new TreeSet<>();
        for (int c : made) {
            for (int at = c; at >= 0; at = classes.get(at).parent) {
                classesLeft.add(at);
            }
        }
        Map<Integer, Integer> anew = new TreeMap<>();
        anew.put(-1, -1);
        for (int c : classesLeft) {
            anew.put(c, anew.size() - 1);
        }
        List<Mth> methodsLeft = new ArrayList<>();
        for (int m : live) {
            Mth left = methods.get(m);
            left.cls = anew.get(left.cls);
            for (int[] item : left.items) {
                if (item[0] == 1) {
                    item[1] = anew.get(item[1]);
                }
            }
            methodsLeft.add(left);
        }
        List<Cls> kept = new ArrayList<>();
        for (int c : classesLeft) {
            classes.get(c).parent = anew.get(classes.get(c).parent);
            kept.add(classes.get(c));
        }
        int went = methods.size() - methodsLeft.size();
        methods.clear();
        methods.addAll(methodsLeft);
        classes.clear();
        classes.addAll(kept);
        gone += went;
        return went;
    }

    private void reach() {
        live.clear();
        made.clear();
        for (int m = 0; m < methods.size(); m++) {
            if (methods.get(m).kept) {
                live.add(m);
                made.add(methods.get(m).cls);
            }
        }
        int before = -1;
        while (live.size() + made.size() != before) {
            before = live.size() + made.size();
            for (int m : new ArrayList<>(live)) {
                for (int[] item : methods.get(m).items) {
                    reachBy(methods.get(m).cls, item);
                }
            }
            live.remove(-1);
        }
    }

    private void reachBy(int cls, int[] item) {
        if (item[0] == 1) {
            made.add(item[1]);
            live.add(finding(item[1], item[2], item[3]));
        }
        if (item[0] == 2) {
            for (int c : made) {
                if (c == cls || ancestors(c).contains(cls)) {
                    live.add(finding(c, item[2], item[3]));
                }
            }
        }
        live.remove(-1);
    }

    int rename() {
        List<Member> members = members();
        int[] family = new int[members.size()];
        for (int i = 0; i < family.length; i++) {
            family[i] = i;
        }
        for (int i = 0; i < family.length; i++) {
            for (int j = 0; j < i; j++) {
                if (alike(members.get(i), members.get(j)) && family[i] != family[j]) {
                    join(family, family[i], family[j]);
                }
            }
        }
        // METHODS stand before STAND-INS in the list, so the first of each is its lowest METHOD.
        List<Integer> order = new ArrayList<>();
        Set<Integer> keptOnes = new HashSet<>();
        for (int i = 0; i < methods.size(); i++) {
            if (!order.contains(family[i])) {
                order.add(family[i]);
            }
            if (methods.get(i).kept) {
                keptOnes.add(family[i]);
            }
        }
        Map<Integer, Integer> given = giveNames(members, family, order, keptOnes);
        writeNames(members, family, given);
        return order.size();
    }

    private Map<Integer, Integer> giveNames(
            List<Member> members, int[] family, List<Integer> order, Set<Integer> keptOnes) {
        Map<Integer, Integer> given = new HashMap<>();
        for (int i = 0; i < family.length; i++) {
            if (keptOnes.contains(family[i])) {
                given.put(family[i], members.get(i).name());
            }
        }
        for (int f : order) {
            if (!keptOnes.contains(f)) {
                int name = 0;
                while (isTaken(name, f, members, family, given)) {
                    name++;
                }
                given.put(f, name);
            }
        }
        return given;
    }

    private boolean isTaken(int name, int f, List<Member> members, int[] family, Map<Integer, Integer> given) {
        for (int i = 0; i < family.length; i++) {
            for (int j = 0; j < family.length; j++) {
                Member one = members.get(i);
                Member two = members.get(j);
                if (family[i] == f && family[j] != f && one.arity() == two.arity() && related(one.cls(), two.cls())
                        && given.containsKey(family[j]) && given.get(family[j]) == name) {
                    return true;
                }
            }
        }
        return false;
    }

    private void writeNames(List<Member> members, int[] family, Map<Integer, Integer> given) {
        Map<int[], Integer> ofItems = new HashMap<>();
        for (Mth m : methods) {
            for (int[] item : m.items) {
                if (item[0] == 1) {
                    int found = finding(item[1], item[2], item[3]);
                    ofItems.put(item, found < 0 ? 26 : given.get(family[found]));
                }
            }
        }
        for (int i = 0; i < family.length; i++) {
            if (members.get(i).method() < 0) {
                ofItems.put(members.get(i).item(), given.getOrDefault(family[i], 26));
            }
        }
        for (int i = 0; i < methods.size(); i++) {
            methods.get(i).name = given.get(family[i]);
        }
        ofItems.forEach((item, name) -> item[2] = name);
    }

    private List<Member> members() {
        List<Member> members = new ArrayList<>();
        for (int m = 0; m < methods.size(); m++) {
            members.add(new Member(methods.get(m).cls, methods.get(m).name, methods.get(m).arity, m, null));
        }
        for (Mth m : methods) {
            for (int[] item : m.items) {
                if (item[0] == 2) {
                    members.add(new Member(m.cls, item[2], item[3], -1, item));
                }
            }
        }
        return members;
    }

    private boolean alike(Member one, Member two) {
        return one.name() == two.name() && one.arity() == two.arity() && related(one.cls(), two.cls());
    }

    private static void join(int[] family, int from, int into) {
        int least = Math.min(from, into);
        int most = Math.max(from, into);
        for (int i = 0; i < family.length; i++) {
            if (family[i] == most) {
                family[i] = least;
            }
        }
    }

    int told(int m, int what) {
        bad(noMethod(m) || what < 0 || what > 7);
        Mth t = methods.get(m);
        int[] all = {t.cls, t.name, t.arity, t.items.size(), t.kept ? 1 : 0, classes.get(t.cls).born, t.bornName,
            t.bornNumber};
        return all[what];
    }

    int inside(int m, int i, int what) {
        bad(noMethod(m) || what < 0 || what > 3);
        if (i < 0 || i >= methods.get(m).items.size()) {
            throw new NoSuchElementException();
        }
        return methods.get(m).items.get(i)[what];
    }

    int trace(int of, int name, int arity) {
        bad(noClass(of) || name < 0 || name > 26 || noArity(arity));
        int m = own(of, name, arity);
        if (m < 0) {
            throw new NoSuchElementException();
        }
        return methods.get(m).bornNumber;
    }

    int count(int what) {
        reach();
        int[] five = {classes.size(), methods.size(), live.size(), made.size(), gone};
        if (what >= 0 && what < 5) {
            return five[what];
        }
        long cls = what - 10L;
        return cls >= 0 && cls < classes.size() ? classes.get((int) cls).parent : -2;
    }

    private int own(int cls, int name, int arity) {
        for (int m = 0; m < methods.size(); m++) {
            Mth at = methods.get(m);
            if (at.cls == cls && at.name == name && at.arity == arity) {
                return m;
            }
        }
        return -1;
    }

    private int finding(int cls, int name, int arity) {
        int own = own(cls, name, arity);
        int parent = classes.get(cls).parent;
        return own >= 0 || parent < 0 ? own : finding(parent, name, arity);
    }

    private Set<Integer> ancestors(int cls) {
        Set<Integer> found = new TreeSet<>();
        for (int at = classes.get(cls).parent; at >= 0; at = classes.get(at).parent) {
            found.add(at);
        }
        return found;
    }

    private boolean related(int c, int d) {
        return c == d || ancestors(c).contains(d) || ancestors(d).contains(c);
    }

    private boolean noClass(int c) {
        return c < 0 || c >= classes.size();
    }

    private boolean noMethod(int m) {
        return m < 0 || m >= methods.size();
    }

    private static boolean noName(int name) {
        return name < 0 || name > 25;
    }

    private static boolean noArity(int arity) {
        return arity < 0 || arity > 2;
    }

    private static void bad(boolean is) {
        if (is) {
            throw new IllegalArgumentException();
        }
    }

    private static void full(boolean is) {
        if (is) {
            throw new IllegalStateException();
        }
    }
}

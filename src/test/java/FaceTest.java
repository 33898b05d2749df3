import java.lang.reflect.Constructor;
import java.lang.reflect.Field;
import java.lang.reflect.Method;
import java.lang.reflect.Modifier;
import java.util.Set;
import java.util.TreeSet;

/** The public face of the document, and LANGUAGE.md's rule 1 on what else may be seen. */
public final class FaceTest {
    private static final Set<String> FACE = Set.of(
            "int add(int) IllegalArgumentException IllegalStateException",
            "int method(int,int,int) IllegalArgumentException IllegalStateException",
            "int item(int,int,int,int,int) IllegalArgumentException IllegalStateException",
            "void keep(int,boolean) IllegalArgumentException",
            "int run(int,int,int) IllegalArgumentException NoSuchElementException IllegalStateException",
            "int shrink()",
            "int rename()",
            "int told(int,int) IllegalArgumentException",
            "int inside(int,int,int) IllegalArgumentException NoSuchElementException",
            "int trace(int,int,int) IllegalArgumentException NoSuchElementException",
            "int count(int)");

    public static void main(String[] args) {
        Checks checks = new Checks();
        Class<?> face = CodeShrinker.class;
        checks.compare("modifiers", "public final", Modifier.toString(face.getModifiers()));
        checks.compare("public methods", new TreeSet<>(FACE).toString(), publicMethods(face).toString());
        checks.compare("other members that can be seen", "[]", seenBesides(face).toString());
        checks.compare("private methods with a public one's name", "[]", borrowedNames(face).toString());
        checks.compare("constructors", "[public CodeShrinker()]", constructors(face).toString());
        checks.finish();
    }

    private static Set<String> publicMethods(Class<?> face) {
        Set<String> found = new TreeSet<>();
        for (Method m : face.getDeclaredMethods()) {
            if (Modifier.isPublic(m.getModifiers())) {
                found.add(signature(m));
            }
        }
        return found;
    }

    private static String signature(Method m) {
        StringBuilder text = new StringBuilder(m.getReturnType() + " " + m.getName() + "(");
        for (Class<?> parameter : m.getParameterTypes()) {
            text.append(text.charAt(text.length() - 1) == '(' ? "" : ",").append(parameter);
        }
        text.append(")");
        for (Class<?> thrown : m.getExceptionTypes()) {
            text.append(" ").append(thrown.getSimpleName());
        }
        return text.toString();
    }

    private static Set<String> seenBesides(Class<?> face) {
        Set<String> found = new TreeSet<>();
        for (Method m : face.getDeclaredMethods()) {
            if (!Modifier.isPublic(m.getModifiers()) && !Modifier.isPrivate(m.getModifiers())) {
                found.add(m.toString());
            }
        }
        for (Field f : face.getDeclaredFields()) {
            if (!Modifier.isPrivate(f.getModifiers())) {
                found.add(f.toString());
            }
        }
        for (Class<?> c : face.getDeclaredClasses()) {
            int modifiers = c.getModifiers();
            if (Modifier.isPublic(modifiers) || Modifier.isProtected(modifiers) || !Modifier.isStatic(modifiers)) {
                found.add(c.toString());
            }
        }
        return found;
    }

    /** The names of the face's calls. */
    static Set<String> names() {
        Set<String> names = new TreeSet<>();
        for (String signature : FACE) {
            names.add(signature.substring(signature.indexOf(' ') + 1, signature.indexOf('(')));
        }
        return names;
    }

    private static Set<String> borrowedNames(Class<?> face) {
        Set<String> publicNames = names();
        Set<String> found = new TreeSet<>();
        addBorrowed(face, publicNames, found);
        for (Class<?> c : face.getDeclaredClasses()) {
            addBorrowed(c, publicNames, found);
        }
        return found;
    }

    private static void addBorrowed(Class<?> in, Set<String> publicNames, Set<String> found) {
        for (Method m : in.getDeclaredMethods()) {
            if (!Modifier.isPublic(m.getModifiers()) && publicNames.contains(m.getName())) {
                found.add(m.toString());
            }
        }
    }

    private static Set<String> constructors(Class<?> face) {
        Set<String> found = new TreeSet<>();
        for (Constructor<?> c : face.getDeclaredConstructors()) {
            found.add(c.toString());
        }
        return found;
    }
}

import java.lang.reflect.Constructor;
import java.lang.reflect.Field;
import java.lang.reflect.Member;
import java.lang.reflect.Method;
import java.lang.reflect.Modifier;
import java.util.Set;
import java.util.TreeSet;

/** The public face is the document's, with nothing more to be seen from outside (rule 1 of LANGUAGE.md). */
public final class FaceTest {
    public static void main(String[] args) throws IllegalAccessException {
        Set<String> due = dueLines();
        Set<String> seen = seenLines();
        Check.about("The public face");
        Check.due("lines of the document " + due, due.size(), 22);
        Check.due("more is seen, or less: " + difference(seen, due), seen.equals(due), true);
        privateNames();
        classesInside();
        Check.end();
    }

    /** The document's lines, without the names of parameters. */
    private static Set<String> dueLines() {
        Set<String> lines = new TreeSet<>();
        for (String line : Sentence.face().split("\n")) {
            if (line.strip().startsWith("public")) {
                lines.add(line.strip().replaceAll(" \\w+([,)])", "$1").replaceAll("[;{]", "").strip());
            }
        }
        return lines;
    }

    /** The class, and each of its members that is not private, as the document writes them. */
    private static Set<String> seenLines() throws IllegalAccessException {
        Set<String> lines = new TreeSet<>();
        lines.add(Modifier.toString(SplitKernel.class.getModifiers()) + " class SplitKernel");
        for (Field f : SplitKernel.class.getDeclaredFields()) {
            if (isSeen(f)) {
                lines.add(start(f, f.getType()) + " " + f.getName() + " = " + f.get(null));
            }
        }
        for (Constructor<?> c : SplitKernel.class.getDeclaredConstructors()) {
            if (isSeen(c)) {
                lines.add(Modifier.toString(c.getModifiers()) + " " + c.getName() + types(c.getParameterTypes()));
            }
        }
        for (Method m : SplitKernel.class.getDeclaredMethods()) {
            if (isSeen(m)) {
                lines.add(start(m, m.getReturnType()) + " " + m.getName() + types(m.getParameterTypes()));
            }
        }
        return lines;
    }

    private static Set<String> difference(Set<String> one, Set<String> other) {
        Set<String> all = new TreeSet<>(one);
        all.addAll(other);
        all.removeIf(line -> one.contains(line) && other.contains(line));
        return all;
    }

    private static boolean isSeen(Member member) {
        return !Modifier.isPrivate(member.getModifiers());
    }

    private static String start(Member member, Class<?> type) {
        return Modifier.toString(member.getModifiers()) + " " + type.getName();
    }

    private static String types(Class<?>[] types) {
        StringBuilder text = new StringBuilder("(");
        for (Class<?> type : types) {
            text.append(text.length() == 1 ? "" : ", ").append(type.getName());
        }
        return text.append(")").toString();
    }

    private static void privateNames() {
        Set<String> names = new TreeSet<>();
        for (Method m : SplitKernel.class.getMethods()) {
            names.add(m.getName());
        }
        for (Method m : SplitKernel.class.getDeclaredMethods()) {
            Check.due("private " + m.getName() + " bears a public name", !isSeen(m) && names.contains(m.getName()), false);
        }
    }

    private static void classesInside() {
        for (Class<?> inside : SplitKernel.class.getDeclaredClasses()) {
            Check.due(inside.getName() + " is static", Modifier.isStatic(inside.getModifiers()), true);
            Check.due(inside.getName() + " is public", Modifier.isPublic(inside.getModifiers()), false);
            Check.due(inside.getName() + " is protected", Modifier.isProtected(inside.getModifiers()), false);
        }
    }
}

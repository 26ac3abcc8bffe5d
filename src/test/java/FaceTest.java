import java.lang.reflect.Constructor;
import java.lang.reflect.Field;
import java.lang.reflect.Method;
import java.lang.reflect.Modifier;
import java.util.Set;
import java.util.TreeSet;

/** The public face is the document's, with nothing more to be seen from outside (rule 1 of LANGUAGE.md). */
public final class FaceTest {
    private static final String[] METHODS = {
        "boolean flow(int,int,boolean)", "int channel(int,int,boolean,int)", "int code(int,int)", "boolean onFail(int,int)",
        "int slot(int,int,int)", "int seal()", "int input(int,int)", "int tick(int)", "int register(int,int)",
        "int cell(int,int)", "int of(int,int)", "int output(int,int)", "int at(int,int)", "int told(int)",
        "int action(int,int)", "int purge(int)", "int kept(int)", "int purged(int,int,int)", "int undisturbed(int)"};

    public static void main(String[] args) {
        Set<String> want = new TreeSet<>(Set.of(METHODS));
        Set<String> names = new TreeSet<>();
        Set<String> got = new TreeSet<>();
        for (Method m : SplitKernel.class.getDeclaredMethods()) {
            if (!Modifier.isPrivate(m.getModifiers())) {
                got.add(face(m));
                names.add(m.getName());
                Check.due(m.getName() + " is public", Modifier.isPublic(m.getModifiers()), true);
                Check.due(m.getName() + " is static", Modifier.isStatic(m.getModifiers()), false);
            }
        }
        Check.due("the methods " + got + " are those of the document", got.equals(want), true);
        for (Method m : SplitKernel.class.getDeclaredMethods()) {
            if (Modifier.isPrivate(m.getModifiers())) {
                Check.due("private " + m.getName() + " bears a public name", names.contains(m.getName()), false);
            }
        }
        fields();
        Constructor<?>[] constructors = SplitKernel.class.getDeclaredConstructors();
        Check.due("constructors", constructors.length, 1);
        Check.due("the constructor is public", Modifier.isPublic(constructors[0].getModifiers()), true);
        Check.due("the class is final", Modifier.isFinal(SplitKernel.class.getModifiers()), true);
        for (Class<?> inside : SplitKernel.class.getDeclaredClasses()) {
            Check.due(inside.getName() + " is static", Modifier.isStatic(inside.getModifiers()), true);
            Check.due(inside.getName() + " is public", Modifier.isPublic(inside.getModifiers()), false);
        }
        Check.end();
    }

    private static String face(Method m) {
        StringBuilder text = new StringBuilder(m.getReturnType().getName() + " " + m.getName() + "(");
        for (Class<?> type : m.getParameterTypes()) {
            text.append(text.charAt(text.length() - 1) == '(' ? "" : ",").append(type.getName());
        }
        return text.append(")").toString();
    }

    private static void fields() {
        for (Field f : SplitKernel.class.getDeclaredFields()) {
            int modifiers = f.getModifiers();
            Check.due(f.getName() + " is private", Modifier.isPrivate(modifiers), !f.getName().equals("NONE"));
            if (Modifier.isStatic(modifiers)) {
                Check.due(f.getName() + " is final", Modifier.isFinal(modifiers), true);
            }
        }
        Check.due("NONE", SplitKernel.NONE, -1);
    }
}

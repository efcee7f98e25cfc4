import java.lang.reflect.Constructor;
import java.lang.reflect.Field;
import java.lang.reflect.Method;
import java.lang.reflect.Modifier;
import java.util.Set;
import java.util.TreeSet;

/** The class's face: what the document shows, and no more. */
public final class FaceTest {
    private static final String[] METHODS = {
        "int feed(int,int,int,int,int)", "int cut(int)", "int score()", "int place()", "int told(int)",
        "int count(int,int)", "long event(int,int,int)", "int judge()", "int fault(int,int)", "int beam(int,int)",
        "int group(int)", "int breaks(int)", "int line(int)", "int width(int)", "int lines(int,int,int)",
        "int second(int,int)", "int readings()", "int tree(int,int)", "int beside(int,int)", "int partner(int)",
        "int ways()", "double sample(int,int)"};

    private FaceTest() {
    }

    public static void main(String[] args) throws Exception {
        Due.is("the class is public and final", PlainMusic.class.getModifiers(), Modifier.PUBLIC | Modifier.FINAL);
        constants();
        methods();
        inner();
        Due.end("FaceTest");
    }

    private static void constants() {
        Due.is("BAD", PlainMusic.BAD, -1);
        Due.is("NO", PlainMusic.NO, -2);
        Due.is("FULL", PlainMusic.FULL, -3);
        Due.is("LARGE", PlainMusic.LARGE, -4);
        int open = 0;
        for (Field field : PlainMusic.class.getDeclaredFields()) {
            boolean hidden = Modifier.isPrivate(field.getModifiers());
            open += hidden ? 0 : 1;
            Due.is(field.getName() + " is private, or a public constant", hidden
                || field.getModifiers() == (Modifier.PUBLIC | Modifier.STATIC | Modifier.FINAL)
                && field.getType() == int.class ? 1 : 0, 1);
        }
        Due.is("public constants", open, 4);
    }

    private static Set<String> names() {
        Set<String> names = new TreeSet<>();
        for (String method : METHODS) {
            names.add(method.substring(method.indexOf(' ') + 1, method.indexOf('(')));
        }
        return names;
    }

    private static void methods() {
        Set<String> due = new TreeSet<>(Set.of(METHODS));
        Set<String> got = new TreeSet<>();
        Set<String> names = names();
        for (Method method : PlainMusic.class.getDeclaredMethods()) {
            if (Modifier.isPrivate(method.getModifiers())) {
                Due.is(method.getName() + " is private, and no public one's name",
                    names.contains(method.getName()) ? 1 : 0, 0);
                continue;
            }
            Due.is(method.getName() + " is public", method.getModifiers(), Modifier.PUBLIC);
            StringBuilder face = new StringBuilder(method.getReturnType() + " " + method.getName() + "(");
            for (Class<?> type : method.getParameterTypes()) {
                face.append(face.charAt(face.length() - 1) == '(' ? "" : ",").append(type);
            }
            got.add(face.append(")").toString());
            Due.is(method.getName() + " throws nothing", method.getExceptionTypes().length, 0);
        }
        Due.is("methods " + got, got.equals(due) ? 1 : 0, 1);
        Constructor<?>[] constructors = PlainMusic.class.getDeclaredConstructors();
        Due.is("constructors", constructors.length, 1);
        Due.is("the constructor is public", constructors[0].getModifiers(), Modifier.PUBLIC);
        Due.is("the constructor takes nothing", constructors[0].getParameterCount(), 0);
        Due.is("what it extends", PlainMusic.class.getSuperclass() == Object.class ? 1 : 0, 1);
        Due.is("what it implements", PlainMusic.class.getInterfaces().length, 0);
    }

    private static void inner() {
        for (Class<?> inner : PlainMusic.class.getDeclaredClasses()) {
            int open = inner.getModifiers() & (Modifier.PUBLIC | Modifier.PROTECTED);
            Due.is(inner.getName() + " is not open", open, 0);
            Due.is(inner.getName() + " is static", Modifier.isStatic(inner.getModifiers()) ? 1 : 0, 1);
            for (Method method : inner.getDeclaredMethods()) {
                Due.is(method.getName() + " in " + inner.getName() + " is no public one's name",
                    names().contains(method.getName()) ? 1 : 0, 0);
                Due.is(method.getName() + " takes at most seven", method.getParameterCount() <= 7 ? 1 : 0, 1);
            }
            int fields = 0;
            for (Field field : inner.getDeclaredFields()) {
                fields += Modifier.isStatic(field.getModifiers()) ? 0 : 1;
            }
            Due.is(inner.getName() + " has at most twenty fields", fields <= 20 ? 1 : 0, 1);
        }
        Due.is("classes within", PlainMusic.class.getDeclaredClasses().length <= 11 ? 1 : 0, 1);
    }
}

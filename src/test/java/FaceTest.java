import java.lang.reflect.Constructor;
import java.lang.reflect.Field;
import java.lang.reflect.Method;
import java.lang.reflect.Modifier;
import java.util.Arrays;
import java.util.HashSet;
import java.util.List;
import java.util.Set;
import java.util.TreeSet;

/** The public face of the document, and rules 1 and 5 of LANGUAGE.md. */
public final class FaceTest {

    private static final List<String> FACE = List.of(
            "int begin(int) throws Argument",
            "int addNote(int,int,int,int,int) throws Argument, State",
            "int dropNote() throws State",
            "int setPitch(int,int,int) throws Index, Argument",
            "int mark(int,boolean,boolean) throws Index",
            "int setBars(int,int) throws Argument",
            "int repeat(int,int,int) throws Index, Argument, State",
            "int clearRepeats()",
            "int transpose(int) throws Argument, State",
            "int setWidth(int) throws Argument",
            "int append(int) throws Argument, State",
            "int clearInput()",
            "int firstError(boolean)",
            "int setLine(int,int) throws Index, Argument",
            "int clearVerse(int) throws Index",
            "int addMetre() throws Argument, State",
            "int dropMetre(int) throws Index",
            "int note(int,int) throws Index, Argument",
            "int part(int,int,int) throws Index, Argument",
            "int heads(int,int) throws Index",
            "int phrase(int,int) throws Index, Argument",
            "int sung(int) throws Index",
            "int fit(int) throws Index",
            "int line(int,int,int) throws Index, Argument",
            "int below(int,int,int,int) throws Index, Argument",
            "int distance(int) throws Index",
            "int nearest()",
            "int metre(int,int) throws Index",
            "int count(int) throws Argument",
            "double meanWidth()",
            "long digest()");

    public static void main(String[] args) {
        methods();
        membersOfTheClass();
        classesInside();
        Check.end("FaceTest");
    }

    private static String told(Method method) {
        StringBuilder text = new StringBuilder();
        text.append(method.getReturnType()).append(' ').append(method.getName()).append('(');
        Class<?>[] types = method.getParameterTypes();
        for (int i = 0; i < types.length; i++) {
            text.append(i == 0 ? "" : ",").append(types[i]);
        }
        text.append(')');
        Class<?>[] thrown = method.getExceptionTypes();
        for (int i = 0; i < thrown.length; i++) {
            String name = thrown[i].getSimpleName();
            text.append(i == 0 ? " throws " : ", ");
            text.append(name.equals("IndexOutOfBoundsException") ? "Index"
                    : name.equals("IllegalArgumentException") ? "Argument"
                    : name.equals("IllegalStateException") ? "State" : name);
        }
        return text.toString();
    }

    private static void methods() {
        Set<String> found = new TreeSet<>();
        for (Method method : HymnPage.class.getDeclaredMethods()) {
            if (Modifier.isPublic(method.getModifiers())) {
                found.add(told(method));
            }
        }
        if (!found.equals(new TreeSet<>(FACE))) {
            Check.fault("the public methods are " + found);
        }
    }

    private static void membersOfTheClass() {
        int mods = HymnPage.class.getModifiers();
        Check.same("public final", Modifier.PUBLIC | Modifier.FINAL, mods);
        for (Constructor<?> made : HymnPage.class.getDeclaredConstructors()) {
            Check.same(made.toString(), Modifier.PUBLIC, made.getModifiers());
            Check.same(made.toString(), 0, made.getParameterCount());
        }
        Set<String> names = new HashSet<>();
        for (Method method : HymnPage.class.getMethods()) {
            names.add(method.getName());
        }
        for (Method method : HymnPage.class.getDeclaredMethods()) {
            int of = method.getModifiers();
            if (!Modifier.isPublic(of) && !Modifier.isPrivate(of)) {
                Check.fault(method + " is neither public nor private");
            }
            if (Modifier.isPrivate(of) && names.contains(method.getName())) {
                Check.fault(method + " bears the name of a public method");
            }
        }
        for (Field field : HymnPage.class.getDeclaredFields()) {
            boolean constant = field.getName().equals("NONE");
            if (constant != Modifier.isPublic(field.getModifiers())
                    || !constant && !Modifier.isPrivate(field.getModifiers())) {
                Check.fault(field + " has the wrong access");
            }
        }
    }

    private static void classesInside() {
        Class<?>[] inside = HymnPage.class.getDeclaredClasses();
        Check.same("no more than some twelve classes", 1, inside.length < 12 ? 1 : 0);
        for (Class<?> type : inside) {
            int of = type.getModifiers();
            if (!Modifier.isStatic(of) || Modifier.isPublic(of) || Modifier.isProtected(of)) {
                Check.fault(type + " has the wrong access");
            }
            for (Field field : type.getDeclaredFields()) {
                if (Modifier.isStatic(field.getModifiers()) && !Modifier.isFinal(field.getModifiers())) {
                    Check.fault(field + " is static and not final");
                }
            }
            for (Method method : type.getDeclaredMethods()) {
                if (Arrays.stream(HymnPage.class.getDeclaredMethods())
                        .anyMatch(m -> Modifier.isPublic(m.getModifiers()) && m.getName().equals(method.getName()))) {
                    Check.fault(method + " bears the name of a public method");
                }
            }
        }
    }
}

import java.lang.reflect.Constructor;
import java.lang.reflect.Field;
import java.lang.reflect.Method;
import java.lang.reflect.Modifier;
import java.util.Arrays;
import java.util.HashSet;
import java.util.List;
import java.util.Set;
import java.util.TreeSet;

/** The public face of the document, and rules 1 and 5 of LANGUAGE.md. */
public final class FaceTest {

    private static final List<String> FACE = List.of(
            "int begin(int)", "int addNote(int,int,int,int,int)", "int dropNote()",
            "int setPitch(int,int,int)", "int mark(int,boolean,boolean)", "int setBars(int,int)",
            "int repeat(int,int,int)", "int clearRepeats()", "int transpose(int)",
            "int setWidth(int)", "int append(int)", "int clearInput()", "int firstError(boolean)",
            "int setLine(int,int)", "int clearVerse(int)", "int addMetre()", "int dropMetre(int)",
            "int note(int,int)", "int part(int,int,int)", "int heads(int,int)",
            "int phrase(int,int)", "int sung(int)", "int fit(int)", "int line(int,int,int)",
            "int below(int,int,int,int)", "int distance(int)", "int nearest()",
            "int metre(int,int)", "int count(int)", "double meanWidth()", "long digest()");

    public static void main(String[] args) {
        methods();
        membersOfTheClass();
        classesInside();
        Check.end("FaceTest");
    }

    private static String told(Method method) {
        StringBuilder text = new StringBuilder();
        text.append(method.getReturnType()).append(' ').append(method.getName()).append('(');
        Class<?>[] types = method.getParameterTypes();
        for (int i = 0; i < types.length; i++) {
            text.append(i == 0 ? "" : ",").append(types[i]);
        }
        return text.append(')').toString();
    }

    private static void methods() {
        Set<String> found = new TreeSet<>();
        for (Method method : HymnPage.class.getDeclaredMethods()) {
            if (Modifier.isPublic(method.getModifiers())) {
                found.add(told(method));
            }
        }
        if (!found.equals(new TreeSet<>(FACE))) {
            Check.fault("the public methods are " + found);
        }
    }

    private static void membersOfTheClass() {
        int mods = HymnPage.class.getModifiers();
        Check.same("public final", Modifier.PUBLIC | Modifier.FINAL, mods);
        for (Constructor<?> made : HymnPage.class.getDeclaredConstructors()) {
            Check.same(made.toString(), Modifier.PUBLIC, made.getModifiers());
            Check.same(made.toString(), 0, made.getParameterCount());
        }
        Set<String> names = new HashSet<>();
        for (Method method : HymnPage.class.getMethods()) {
            names.add(method.getName());
        }
        for (Method method : HymnPage.class.getDeclaredMethods()) {
            int of = method.getModifiers();
            if (!Modifier.isPublic(of) && !Modifier.isPrivate(of)) {
                Check.fault(method + " is neither public nor private");
            }
            if (Modifier.isPrivate(of) && names.contains(method.getName())) {
                Check.fault(method + " bears the name of a public method");
            }
        }
        for (Field field : HymnPage.class.getDeclaredFields()) {
            boolean constant = field.getName().equals("NONE");
            if (constant != Modifier.isPublic(field.getModifiers())
                    || !constant && !Modifier.isPrivate(field.getModifiers())) {
                Check.fault(field + " has the wrong access");
            }
        }
    }

    private static void classesInside() {
        Class<?>[] inside = HymnPage.class.getDeclaredClasses();
        Check.same("no more than some twelve classes", 1, inside.length < 12 ? 1 : 0);
        for (Class<?> type : inside) {
            int of = type.getModifiers();
            if (!Modifier.isStatic(of) || Modifier.isPublic(of) || Modifier.isProtected(of)) {
                Check.fault(type + " has the wrong access");
            }
            for (Field field : type.getDeclaredFields()) {
                if (Modifier.isStatic(field.getModifiers()) && !Modifier.isFinal(field.getModifiers())) {
                    Check.fault(field + " is static and not final");
                }
            }
            for (Method method : type.getDeclaredMethods()) {
                if (Arrays.stream(HymnPage.class.getDeclaredMethods())
                        .anyMatch(m -> Modifier.isPublic(m.getModifiers()) && m.getName().equals(method.getName()))) {
                    Check.fault(method + " bears the name of a public method");
                }
            }
        }
    }
}

import java.lang.reflect.Constructor;
import java.lang.reflect.Field;
import java.lang.reflect.Method;
import java.lang.reflect.Modifier;
import java.util.Set;
import java.util.TreeSet;

/** The public face is the document's, and nothing else of the class can be seen from outside. */
public final class FaceTest {
    private static final Set<String> METHODS = Set.of(
            "int text(int,long)", "int clear()", "int reader(int,int,int)", "int name(int,int)",
            "int read(int,int)", "int all(int)", "long pile(int)", "int mark(int,int)",
            "int count(int)", "int began(int)");

    public static void main(String[] args) {
        Class<ReaderYard> face = ReaderYard.class;
        Due.holds("the class is public and final",
                Modifier.isPublic(face.getModifiers()) && Modifier.isFinal(face.getModifiers()));
        methods(face);
        fields(face);
        classesInside(face);
        Constructor<?>[] constructors = face.getDeclaredConstructors();
        Due.is("constructors", constructors.length, 1);
        Due.is("the constructor's parameters", constructors[0].getParameterCount(), 0);
        Due.holds("the constructor is public", Modifier.isPublic(constructors[0].getModifiers()));
        Due.is("NONE", ReaderYard.NONE, -1);
        Due.is("BAD", ReaderYard.BAD, -2);
        Due.is("FULL", ReaderYard.FULL, -3);
        Due.end();
    }

    private static void methods(Class<?> face) {
        Set<String> seen = new TreeSet<>();
        for (Method method : face.getDeclaredMethods()) {
            if (!Modifier.isPrivate(method.getModifiers())) {
                Due.holds(method + " is public", Modifier.isPublic(method.getModifiers()));
                Due.holds(method + " is of an object", !Modifier.isStatic(method.getModifiers()));
                seen.add(described(method));
            }
        }
        Due.holds("the methods are the document's: " + seen, seen.equals(METHODS));
    }

    private static String described(Method method) {
        StringBuilder text = new StringBuilder(method.getReturnType().getName());
        text.append(' ').append(method.getName()).append('(');
        for (Class<?> type : method.getParameterTypes()) {
            text.append(text.charAt(text.length() - 1) == '(' ? "" : ",").append(type.getName());
        }
        return text.append(')').toString();
    }

    private static void fields(Class<?> face) {
        Set<String> seen = new TreeSet<>();
        for (Field field : face.getDeclaredFields()) {
            if (!Modifier.isPrivate(field.getModifiers())) {
                seen.add(field.getName());
            }
        }
        Due.holds("the constants are the document's: " + seen, seen.equals(Set.of("NONE", "BAD", "FULL")));
    }

    private static void classesInside(Class<?> face) {
        for (Class<?> inside : face.getDeclaredClasses()) {
            int modifiers = inside.getModifiers();
            Due.holds(inside + " is static", Modifier.isStatic(modifiers));
            Due.holds(inside + " is hidden", !Modifier.isPublic(modifiers) && !Modifier.isProtected(modifiers));
        }
    }
}

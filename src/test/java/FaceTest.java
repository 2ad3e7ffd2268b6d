import java.lang.reflect.Constructor;
import java.lang.reflect.Field;
import java.lang.reflect.Method;
import java.lang.reflect.Modifier;
import java.util.Arrays;
import java.util.Set;
import java.util.TreeSet;

/** The class has the document's face and no other. */
final class FaceTest {
    /** Each method with the exceptions that it names, in their order. */
    private static final Set<String> FACE = Set.of(
            "int edges()",
            "int point(int,boolean) IndexOutOfBoundsException",
            "void clue(int,int,int) IndexOutOfBoundsException IllegalArgumentException",
            "int count()",
            "int width(int,boolean) IndexOutOfBoundsException",
            "int nodes()",
            "boolean has(int,int) NoSuchElementException IndexOutOfBoundsException",
            "int length(int) NoSuchElementException",
            "int often(int) IndexOutOfBoundsException",
            "boolean draw(int) IndexOutOfBoundsException",
            "void copy(int) NoSuchElementException",
            "int drawn()",
            "boolean isLoop()",
            "int rank() NoSuchElementException",
            "int above()",
            "int alive()",
            "int spare() IllegalStateException",
            "int clueOf(int,int) IndexOutOfBoundsException");

    static void methodsAreThoseOfTheDocument() {
        Set<String> open = new TreeSet<>();
        Set<String> openNames = new TreeSet<>();
        for (Method method : LoopDiagram.class.getDeclaredMethods()) {
            if (!Modifier.isPrivate(method.getModifiers())) {
                open.add(told(method));
                openNames.add(method.getName());
            }
        }
        if (!open.equals(new TreeSet<>(FACE))) {
            throw new AssertionError("the face is " + open);
        }
        for (Method method : LoopDiagram.class.getDeclaredMethods()) {
            boolean hidden = Modifier.isPrivate(method.getModifiers());
            Check.same(method.getName() + " is private", hidden, !openNames.contains(method.getName()));
        }
    }

    private static String told(Method method) {
        StringBuilder told = new StringBuilder(method.getReturnType() + " " + method.getName() + "(");
        for (Class<?> type : method.getParameterTypes()) {
            told.append(told.charAt(told.length() - 1) == '(' ? "" : ",").append(type);
        }
        told.append(')');
        for (Class<?> exception : method.getExceptionTypes()) {
            told.append(' ').append(exception.getSimpleName());
        }
        return told.toString();
    }

    static void fieldsArePrivateButForTheConstant() {
        for (Field field : LoopDiagram.class.getDeclaredFields()) {
            boolean constant = field.getName().equals("NONE");
            Check.same(field.getName() + " is public", Modifier.isPublic(field.getModifiers()), constant);
            Check.same(field.getName() + " is private", Modifier.isPrivate(field.getModifiers()), !constant);
        }
        Check.same("NONE", LoopDiagram.NONE, -1);
    }

    static void classIsPublicAndFinalWithOneConstructor() {
        int modifiers = LoopDiagram.class.getModifiers();
        Check.same("public final", Modifier.isPublic(modifiers) && Modifier.isFinal(modifiers), true);
        Constructor<?>[] constructors = LoopDiagram.class.getDeclaredConstructors();
        Check.same("constructors", constructors.length, 1);
        Check.same("public", Modifier.isPublic(constructors[0].getModifiers()), true);
        Check.same("parameters", Arrays.toString(constructors[0].getParameterTypes()), "[int, int]");
        Check.same("exceptions", constructors[0].getExceptionTypes().length, 0);
    }
}

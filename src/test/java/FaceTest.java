import java.io.IOException;
import java.lang.reflect.Constructor;
import java.lang.reflect.Field;
import java.lang.reflect.InvocationTargetException;
import java.lang.reflect.Method;
import java.lang.reflect.Modifier;
import java.nio.file.Files;
import java.nio.file.Path;
import java.util.Arrays;
import java.util.Set;
import java.util.TreeSet;

/** The public face as the document lists it, what odd arguments throw, and words that the language leaves out. */
public final class FaceTest {
    private static final String[] FACE = {
        "int begin(int) IllegalArgumentException",
        "int set(int,int,int) IndexOutOfBoundsException IllegalArgumentException",
        "int invert(int) IndexOutOfBoundsException",
        "int join(int,int) IndexOutOfBoundsException IllegalArgumentException",
        "int forget(int) IndexOutOfBoundsException IllegalStateException",
        "int remember(int) IndexOutOfBoundsException IllegalStateException",
        "int pass(int) IllegalArgumentException",
        "int ask(int) IndexOutOfBoundsException",
        "int append(int) IllegalArgumentException IllegalStateException",
        "int clearBuffer()",
        "int firstError()",
        "int fill() IllegalArgumentException",
        "int undo() IllegalStateException",
        "int at(int,int,int) IndexOutOfBoundsException IllegalArgumentException",
        "int output(int,int) IndexOutOfBoundsException IllegalArgumentException",
        "int product(int,int,int) IndexOutOfBoundsException IllegalArgumentException",
        "int count(int) IllegalArgumentException",
        "int ifForgotten(int,int) IndexOutOfBoundsException IllegalArgumentException",
        "int needs(int) IndexOutOfBoundsException",
        "int harmless()",
        "int alike(int,int) IndexOutOfBoundsException",
        "int nearest(int,int) IndexOutOfBoundsException",
        "double decidedShare()",
        "long digest()",
    };
    private static final int[] ODD = {Integer.MIN_VALUE, -64, -1, 0, 1, 3, 4, 6, 7, 15, 16, 33, 63, 64, 127, Integer.MAX_VALUE};
    private static final String[] LEFT_OUT = {
        "import ", "package ", "->", "::", "finally", "synchronized", "assert ", "instanceof", "catch", "Double.", "Float.",
        "Exact(", "System.", "Object", "static {", "\" +", "+ \"", "protected ", "Thread", "Class",
    };

    public static void main(String[] args) throws IOException, ReflectiveOperationException {
        members();
        innerClasses();
        oddArguments();
        source();
        Check.end("FaceTest");
    }

    private static void members() {
        Class<?> face = GateMaze.class;
        Check.holds("the class is public and final", Modifier.isPublic(face.getModifiers()) && Modifier.isFinal(face.getModifiers()));
        Set<String> seen = new TreeSet<>();
        Set<String> publicNames = new TreeSet<>();
        for (Method method : face.getDeclaredMethods()) {
            if (Modifier.isPublic(method.getModifiers())) {
                seen.add(told(method));
                publicNames.add(method.getName());
            }
        }
        Check.same("the public methods", String.join("\n", seen), String.join("\n", new TreeSet<>(Arrays.asList(FACE))));
        for (Method method : face.getDeclaredMethods()) {
            if (!Modifier.isPublic(method.getModifiers())) {
                Check.holds(method.getName() + " is private", Modifier.isPrivate(method.getModifiers()));
                Check.holds(method.getName() + " has a name of its own", !publicNames.contains(method.getName()));
            }
        }
        for (Field field : face.getDeclaredFields()) {
            boolean isConstant = field.getName().equals("NONE") && Modifier.isPublic(field.getModifiers());
            Check.holds(field.getName() + " is private", isConstant || Modifier.isPrivate(field.getModifiers()));
            boolean isFinal = Modifier.isFinal(field.getModifiers());
            Check.holds(field.getName() + " is final if it is static", !Modifier.isStatic(field.getModifiers()) || isFinal);
        }
        Constructor<?>[] constructors = face.getDeclaredConstructors();
        Check.same("constructors", constructors.length, 1);
        Check.holds("the constructor is public", Modifier.isPublic(constructors[0].getModifiers()));
        Check.same("its parameters", constructors[0].getParameterCount(), 0);
    }

    private static String told(Method method) {
        StringBuilder told = new StringBuilder(method.getReturnType().getName());
        told.append(' ').append(method.getName()).append('(');
        String gap = "";
        for (Class<?> type : method.getParameterTypes()) {
            told.append(gap).append(type.getName());
            gap = ",";
        }
        told.append(')');
        for (Class<?> type : method.getExceptionTypes()) {
            told.append(' ').append(type.getSimpleName());
        }
        return told.toString();
    }

    private static void innerClasses() {
        Class<?>[] inner = GateMaze.class.getDeclaredClasses();
        Check.holds("some twelve classes", inner.length <= 12);
        for (Class<?> one : inner) {
            int modifiers = one.getModifiers();
            Check.holds(one.getName() + " is static", Modifier.isStatic(modifiers));
            Check.holds(one.getName() + " is not public", !Modifier.isPublic(modifiers) && !Modifier.isProtected(modifiers));
            for (Field field : one.getDeclaredFields()) {
                boolean isFinal = Modifier.isFinal(field.getModifiers());
                Check.holds(field + " is final if it is static", !Modifier.isStatic(field.getModifiers()) || isFinal);
            }
        }
    }

    /** Every call with every choice of odd arguments, in some states: it throws what its clause names, or nothing. */
    private static void oddArguments() throws ReflectiveOperationException {
        for (Method method : GateMaze.class.getDeclaredMethods()) {
            if (Modifier.isPublic(method.getModifiers())) {
                int choices = 1;
                for (int i = 0; i < method.getParameterCount(); i++) {
                    choices *= ODD.length;
                }
                for (int inputs = 1; inputs <= 6; inputs += inputs == 1 ? 2 : 3) {
                    for (int choice = 0; choice < choices; choice++) {
                        callOddly(method, inputs, choice);
                    }
                }
            }
        }
    }

    private static void callOddly(Method method, int inputs, int choice) throws ReflectiveOperationException {
        GateMaze maze = new GateMaze();
        maze.begin(inputs);
        maze.set(1, 1, 1);
        maze.set(1, 0, 2);
        maze.forget(0);
        Object[] arguments = new Object[method.getParameterCount()];
        int left = choice;
        for (int i = 0; i < arguments.length; i++) {
            arguments[i] = ODD[left % ODD.length];
            left /= ODD.length;
        }
        String name = method.getName() + Arrays.toString(arguments) + " of " + inputs + " inputs";
        try {
            method.invoke(maze, arguments);
        } catch (InvocationTargetException e) {
            boolean isNamed = Arrays.asList(method.getExceptionTypes()).contains(e.getCause().getClass());
            Check.holds(name + " throws what its clause names", isNamed);
            Check.same(name + " throws in", e.getCause().getStackTrace()[0].getClassName(), "GateMaze");
            Check.same(name + ": saved states behind the throw", maze.count(10), 4);
        }
    }

    private static void source() throws IOException {
        String text = Files.readString(Path.of("src/main/java/GateMaze.java"));
        String bare = text.replaceAll("(?s)/\\*.*?\\*/", "").replaceAll("//[^\n]*", "");
        for (String word : LEFT_OUT) {
            Check.holds("the program does without " + word, !bare.contains(word));
        }
        for (char c : text.toCharArray()) {
            if (c > 126 || c < 32 && c != '\n') {
                Check.holds("the program has no sign " + (int) c, false);
            }
        }
    }
}

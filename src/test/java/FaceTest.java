import java.lang.reflect.Constructor;
import java.lang.reflect.Field;
import java.lang.reflect.Method;
import java.lang.reflect.Modifier;
import java.util.Arrays;
import java.util.Set;
import java.util.TreeSet;

/** The public face, and what LANGUAGE.md asks of members. */
public final class FaceTest {
    private static final Set<String> FACE = new TreeSet<>(Arrays.asList(
            "public void load(int,long,int) throws IllegalArgumentException",
            "public void reset()",
            "public int step()",
            "public int run(int) throws IllegalArgumentException",
            "public void nmi()",
            "public int receive(int)",
            "public int sent(int)",
            "public int look(int) throws IllegalArgumentException",
            "public int register(int)",
            "public void set(int,int) throws IllegalArgumentException",
            "public boolean setBreak(int)",
            "public boolean clearBreak(int)",
            "public int trace(int)",
            "public long count(int)"));

    public static void main(String[] args) {
        Class<BoardMachine> type = BoardMachine.class;
        Check.due("public final", type.getModifiers() & (Modifier.PUBLIC | Modifier.FINAL),
                Modifier.PUBLIC | Modifier.FINAL);
        Check.due("NONE", BoardMachine.NONE, -1);
        methods(type);
        Constructor<?>[] constructors = type.getDeclaredConstructors();
        Check.due("constructors", constructors.length, 1);
        Check.due("the constructor's parameters", constructors[0].getParameterCount(), 0);
        Check.due("the constructor is public", Modifier.isPublic(constructors[0].getModifiers()), true);
        for (Field field : type.getDeclaredFields()) {
            boolean open = !Modifier.isPrivate(field.getModifiers());
            Check.due(field.getName() + " is not private", open, field.getName().equals("NONE"));
        }
        for (Class<?> inside : type.getDeclaredClasses()) {
            int open = inside.getModifiers() & (Modifier.PUBLIC | Modifier.PROTECTED);
            Check.due(inside.getName() + " is public or protected", open, 0);
            Check.due(inside.getName() + " is static", Modifier.isStatic(inside.getModifiers()), true);
        }
        Check.end();
    }

    private static void methods(Class<?> type) {
        Set<String> found = new TreeSet<>();
        for (Method method : type.getDeclaredMethods()) {
            if (!Modifier.isPrivate(method.getModifiers())) {
                found.add(method.toGenericString().replace("BoardMachine.", "").replace("java.lang.", ""));
            }
        }
        Check.due("the methods are " + found + ", not " + FACE, found.equals(FACE), true);
    }
}

import java.lang.reflect.Constructor;
import java.lang.reflect.Field;
import java.lang.reflect.Method;
import java.lang.reflect.Modifier;
import java.util.Arrays;
import java.util.Set;
import java.util.TreeSet;

/** The public face, and what LANGUAGE.md asks of members. */
public final class FaceTest {
    private static final Set<String> FACE = new TreeSet<>(Arrays.asList(
            "public void load(int,long,int) throws IllegalArgumentException",
            "public void reset()",
            "public int step()",
            "public int run(int) throws IllegalArgumentException",
            "public void nmi()",
            "public int receive(int)",
            "public int sent(int)",
            "public int look(int) throws IllegalArgumentException",
            "public int register(int)",
            "public void set(int,int) throws IllegalArgumentException",
            "public boolean setBreak(int)",
            "public boolean clearBreak(int)",
            "public int trace(int)",
            "public long count(int)"));

    public static void main(String[] args) {
        Class<BoardMachine> type = BoardMachine.class;
        Check.due("public final", type.getModifiers() & (Modifier.PUBLIC | Modifier.FINAL),
                Modifier.PUBLIC | Modifier.FINAL);
        Check.due("NONE", BoardMachine.NONE, -1);
        methods(type);
        Constructor<?>[] constructors = type.getDeclaredConstructors();
        Check.due("constructors", constructors.length, 1);
        Check.due("the constructor's parameters", constructors[0].getParameterCount(), 0);
        Check.due("the constructor is public", Modifier.isPublic(constructors[0].getModifiers()), true);
        for (Field field : type.getDeclaredFields()) {
            boolean open = !Modifier.isPrivate(field.getModifiers());
            Check.due(field.getName() + " is not private", open, field.getName().equals("NONE"));
        }
        for (Class<?> inside : type.getDeclaredClasses()) {
            int open = inside.getModifiers() & (Modifier.PUBLIC | Modifier.PROTECTED);
            Check.due(inside.getName() + " is public or protected", open, 0);
            Check.due(inside.getName() + " is static", Modifier.isStatic(inside.getModifiers()), true);
            members(inside);
        }
        members(type);
        Check.due("some twelve classes", 1 + type.getDeclaredClasses().length <= 12, true);
        Check.end();
    }

    /** What can be seen here of the rules 1, 5, 6 and 11 of LANGUAGE.md. */
    private static void members(Class<?> type) {
        int fields = 0;
        for (Field field : type.getDeclaredFields()) {
            boolean constant = Modifier.isStatic(field.getModifiers());
            fields += constant ? 0 : 1;
            Check.due(type.getName() + "." + field.getName() + " is static and not final",
                    constant && !Modifier.isFinal(field.getModifiers()), false);
        }
        Check.due(type.getName() + " has " + fields + " fields, some twenty", fields <= 20, true);
        for (Method method : type.getDeclaredMethods()) {
            String name = type.getName() + "." + method.getName();
            boolean open = type == BoardMachine.class && Modifier.isPublic(method.getModifiers());
            boolean faceName = FACE.stream().anyMatch(line -> line.contains(" " + method.getName() + "("));
            Check.due(name + " bears a name of the face", faceName, open);
            Check.due(name + " has at most seven parameters", method.getParameterCount() <= 7, true);
        }
        for (Constructor<?> constructor : type.getDeclaredConstructors()) {
            Check.due(type.getName() + "'s constructor throws", constructor.getExceptionTypes().length, 0);
        }
    }

    private static void methods(Class<?> type) {
        Set<String> found = new TreeSet<>();
        for (Method method : type.getDeclaredMethods()) {
            if (!Modifier.isPrivate(method.getModifiers())) {
                found.add(method.toGenericString().replace("BoardMachine.", "").replace("java.lang.", ""));
            }
        }
        Check.due("the methods are " + found + ", not " + FACE, found.equals(FACE), true);
    }
}

import java.lang.reflect.Constructor;
import java.lang.reflect.Field;
import java.lang.reflect.Method;
import java.lang.reflect.Modifier;
import java.util.Arrays;
import java.util.TreeSet;

/** The public face: every member that the document names and no other that can be seen. */
public final class FaceTest {
    private static final String[] FACE = {
        "public static final int BAD", "public static final int GOING", "public static final int HALTED",
        "public static final int DEAD", "public CodeCacheMachine()", "public boolean poke(int,int)",
        "public boolean code(int,int,int)", "public int run(int)", "public int executed()", "public int peek(int)",
        "public int register(int)", "public boolean setRegister(int,int)", "public int place()",
        "public int look(int)", "public int translated(int)", "public int printed()", "public int output(int)",
        "public void reset(int)", "public boolean level(int)"
    };

    public static void main(String[] args) {
        TreeSet<String> want = new TreeSet<>(Arrays.asList(FACE));
        TreeSet<String> seen = seenMembers();
        for (String member : want) {
            Due.due("the face has " + member, seen.contains(member), true);
        }
        for (String member : seen) {
            Due.due("the document names " + member, want.contains(member), true);
        }
        Due.due("class modifiers", CodeCacheMachine.class.getModifiers(), Modifier.PUBLIC | Modifier.FINAL);
        Due.due("the class has no package", CodeCacheMachine.class.getPackageName().isEmpty(), true);
        Due.due("the class extends Object alone", CodeCacheMachine.class.getSuperclass() == Object.class, true);
        Due.due("interfaces of the class", CodeCacheMachine.class.getInterfaces().length, 0);
        Due.due("classes in the class", CodeCacheMachine.class.getDeclaredClasses().length, 0);
        Due.due("BAD", CodeCacheMachine.BAD, -1);
        Due.due("GOING", CodeCacheMachine.GOING, 0);
        Due.due("HALTED", CodeCacheMachine.HALTED, 1);
        Due.due("DEAD", CodeCacheMachine.DEAD, 2);
        Due.finish();
    }

    private static TreeSet<String> seenMembers() {
        TreeSet<String> seen = new TreeSet<>();
        for (Field field : CodeCacheMachine.class.getDeclaredFields()) {
            if (!Modifier.isPrivate(field.getModifiers())) {
                seen.add(Modifier.toString(field.getModifiers()) + " " + field.getType() + " " + field.getName());
            }
        }
        for (Constructor<?> constructor : CodeCacheMachine.class.getDeclaredConstructors()) {
            if (!Modifier.isPrivate(constructor.getModifiers())) {
                seen.add(constructor.toString());
            }
        }
        for (Method method : CodeCacheMachine.class.getDeclaredMethods()) {
            if (!Modifier.isPrivate(method.getModifiers())) {
                seen.add(method.toString().replace("CodeCacheMachine.", ""));
            }
        }
        return seen;
    }
}

import java.lang.reflect.Constructor;
import java.lang.reflect.Field;
import java.lang.reflect.Method;
import java.lang.reflect.Modifier;
import java.util.Arrays;
import java.util.Set;
import java.util.TreeSet;

// The class has the document's face, and no member beside it that another class could see.
public final class FaceTest {
    private static final Set<String> FACE = new TreeSet<>(Arrays.asList(
        "public static final int WireWays.NONE",
        "public WireWays(int)",
        "public boolean WireWays.plug(int,int,int,int)",
        "public boolean WireWays.draw(int,int)",
        "public int WireWays.cost(int,int,int)",
        "public boolean WireWays.cut(int)",
        "public boolean WireWays.mend(int)",
        "public int WireWays.far(int,boolean,int)",
        "public int WireWays.port(int,boolean,int)",
        "public int WireWays.next(int,boolean,int)",
        "public int WireWays.walk(int,boolean,int,int)",
        "public int WireWays.reach(int)",
        "public int WireWays.count(int)"));

    private static final Set<String> seen = new TreeSet<>();
    private static int wrong = 0;

    private static void tell(String text) {
        wrong++;
        System.out.println(text);
    }

    private static void see(String member, int modifiers) {
        if (!Modifier.isPrivate(modifiers)) {
            seen.add(member);
        }
    }

    private static void noPrivateMethodBearsAPublicName() {
        Set<String> publicNames = new TreeSet<>();
        for (Method method : WireWays.class.getDeclaredMethods()) {
            if (Modifier.isPublic(method.getModifiers())) {
                publicNames.add(method.getName());
            }
        }
        for (Method method : WireWays.class.getDeclaredMethods()) {
            if (!Modifier.isPublic(method.getModifiers()) && publicNames.contains(method.getName())) {
                tell("bears the name of a public one: " + method);
            }
        }
    }

    public static void main(String[] args) {
        for (Field field : WireWays.class.getDeclaredFields()) {
            see(field.toString(), field.getModifiers());
            if (Modifier.isStatic(field.getModifiers()) && !Modifier.isFinal(field.getModifiers())) {
                tell("static and not final: " + field);
            }
        }
        for (Constructor<?> constructor : WireWays.class.getDeclaredConstructors()) {
            see(constructor.toString(), constructor.getModifiers());
        }
        for (Method method : WireWays.class.getDeclaredMethods()) {
            see(method.toString(), method.getModifiers());
        }
        if (!seen.equals(FACE)) {
            tell("the face is " + seen + ", due is " + FACE);
        }
        int modifiers = WireWays.class.getModifiers();
        if (!Modifier.isPublic(modifiers) || !Modifier.isFinal(modifiers)) {
            tell("the class is not public and final");
        }
        noPrivateMethodBearsAPublicName();
        System.out.println(wrong == 0 ? "the face is as due" : wrong + " faults of the face");
        if (wrong != 0) {
            System.exit(1);
        }
    }
}

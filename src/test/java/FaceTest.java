import java.lang.reflect.Constructor;
import java.lang.reflect.Field;
import java.lang.reflect.Method;
import java.lang.reflect.Modifier;
import java.util.Set;
import java.util.TreeSet;

/** The public face is the document's, and nothing else can be seen from outside. */
public final class FaceTest {
    private static final Set<String> FACE = Set.of(
        "boolean rom(int,int)", "void reset()", "void pad(int)", "int step()", "int run(int)",
        "int memory(int)", "int register(int)", "boolean seed(int,int)", "int video(int,int)",
        "int pixel(int,int)");

    private FaceTest() {
    }

    public static void main(String[] args) {
        Check.that("The public face", FaceTest::face);
        Check.end();
    }

    private static void face() {
        int modifiers = TwinConsole.class.getModifiers();
        Check.due("public and final", Modifier.isPublic(modifiers) && Modifier.isFinal(modifiers), true);
        Set<String> seen = new TreeSet<>();
        for (Method method : TwinConsole.class.getDeclaredMethods()) {
            if (Modifier.isPrivate(method.getModifiers())) {
                continue;
            }
            StringBuilder text = new StringBuilder(method.getReturnType() + " " + method.getName() + "(");
            for (int k = 0; k < method.getParameterCount(); k++) {
                text.append(k == 0 ? "" : ",").append(method.getParameterTypes()[k]);
            }
            seen.add(text.append(")").toString());
        }
        Check.due("the methods " + seen, seen.equals(FACE), true);
        for (Field field : TwinConsole.class.getDeclaredFields()) {
            Check.due("private: " + field, Modifier.isPrivate(field.getModifiers()), true);
        }
        Constructor<?>[] makers = TwinConsole.class.getDeclaredConstructors();
        Check.due("constructors", makers.length, 1);
        Check.due("its parameters", makers[0].getParameterCount(), 0);
    }
}

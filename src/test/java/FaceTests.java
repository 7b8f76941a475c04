import java.lang.reflect.Constructor;
import java.lang.reflect.Field;
import java.lang.reflect.Method;
import java.lang.reflect.Modifier;
import java.util.Arrays;
import java.util.Set;
import java.util.TreeSet;

/** The class shows the document's face and nothing more, and no other state is shared between objects. */
public final class FaceTests {
    private static int wrong = 0;

    public static void main(String[] args) {
        require(Modifier.isPublic(VoiceForm.class.getModifiers()), "the class is public");
        require(Modifier.isFinal(VoiceForm.class.getModifiers()), "the class is final");
        constructors();
        methods();
        fields();
        System.out.println(wrong == 0 ? "the face is as due" : wrong + " parts of the face are not as due");
        if (wrong != 0) {
            System.exit(1);
        }
    }

    private static void require(boolean holds, String what) {
        if (!holds) {
            wrong++;
            System.out.println("does not hold: " + what);
        }
    }

    private static void constructors() {
        Constructor<?>[] all = VoiceForm.class.getDeclaredConstructors();
        require(all.length == 1, "one constructor");
        require(Modifier.isPublic(all[0].getModifiers()) && all[0].getParameterCount() == 0, "VoiceForm() is public");
    }

    private static void methods() {
        Set<String> want = new TreeSet<>(Arrays.asList(
                "int digits(int, int, boolean, boolean)",
                "int choice(int, boolean, int, int, int, int, int, int)",
                "boolean needs(int, int, int)", "boolean costs(int, int, int)", "int place()", "int word(int, int)",
                "int say()", "boolean goOn()", "int told(int)", "int about(int)", "int field(int, int)",
                "int hearBack()", "boolean send()"));
        Set<String> names = new TreeSet<>();
        for (String text : want) {
            names.add(text.substring(text.indexOf(' ') + 1, text.indexOf('(')));
        }
        Set<String> got = new TreeSet<>();
        for (Method m : VoiceForm.class.getDeclaredMethods()) {
            if (Modifier.isPrivate(m.getModifiers())) {
                require(!names.contains(m.getName()), "no private method bears the name " + m.getName());
            } else {
                got.add(text(m));
            }
        }
        require(got.equals(want), "the methods are " + want + ", not " + got);
    }

    private static String text(Method m) {
        StringBuilder text = new StringBuilder(m.getReturnType().getName()).append(' ').append(m.getName()).append('(');
        String between = "";
        for (Class<?> type : m.getParameterTypes()) {
            text.append(between).append(type.getName());
            between = ", ";
        }
        return text.append(')').toString();
    }

    private static void fields() {
        for (Field f : VoiceForm.class.getDeclaredFields()) {
            int modifiers = f.getModifiers();
            require(Modifier.isPrivate(modifiers) || f.getName().equals("NONE"), f.getName() + " is private");
            require(!Modifier.isStatic(modifiers) || Modifier.isFinal(modifiers), f.getName() + " is final if static");
        }
        for (Class<?> c : VoiceForm.class.getDeclaredClasses()) {
            require(Modifier.isStatic(c.getModifiers()), c.getName() + " is static");
            require(!Modifier.isPublic(c.getModifiers()), c.getName() + " is not public");
            for (Field f : c.getDeclaredFields()) {
                int modifiers = f.getModifiers();
                require(!Modifier.isStatic(modifiers) || Modifier.isFinal(modifiers), f.getName() + " has no state");
            }
        }
    }
}

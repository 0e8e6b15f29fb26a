import java.lang.reflect.Constructor;
import java.lang.reflect.Field;
import java.lang.reflect.Method;
import java.lang.reflect.Modifier;
import java.util.Arrays;
import java.util.HashSet;
import java.util.Set;
import java.util.TreeSet;

/** The public face, as the document writes it, and the rules of LANGUAGE.md that can be seen from outside. */
public final class FaceTest {
    private static final String[] FACE = {
        "void prescribe(int, int) IllegalStateException, IllegalArgumentException",
        "void start() IllegalStateException, UnsupportedOperationException",
        "void pause(boolean) IllegalStateException",
        "void end() IllegalStateException",
        "int tick(int) IllegalStateException, IllegalArgumentException",
        "boolean stroke(int, int)",
        "boolean scale(int)",
        "boolean heat(int, int)",
        "void air(boolean)",
        "void door(boolean)",
        "void line(boolean)",
        "boolean lift(int)",
        "int alarm(int)",
        "boolean mute()",
        "int muted()",
        "void cut(int) IllegalStateException, IllegalArgumentException",
        "int power(int) IllegalStateException, IllegalArgumentException",
        "int state(int) IllegalArgumentException",
        "int report(int, int) IndexOutOfBoundsException, IllegalArgumentException",
    };

    public static void main(String[] args) {
        int modifiers = NightCycler.class.getModifiers();
        Check.yes("the class is public and final", Modifier.isPublic(modifiers) && Modifier.isFinal(modifiers));
        Constructor<?>[] constructors = NightCycler.class.getDeclaredConstructors();
        Check.same("constructors", constructors.length, 1);
        Check.same("parameters of the constructor", constructors[0].getParameterCount(), 0);
        Check.yes("the constructor is public", Modifier.isPublic(constructors[0].getModifiers()));
        methodsAreTheFace();
        fieldsArePrivate();
        classesInside();
        Check.finish();
    }

    private static void methodsAreTheFace() {
        Set<String> face = new TreeSet<>();
        Set<String> names = new HashSet<>();
        for (Method m : NightCycler.class.getDeclaredMethods()) {
            if (Modifier.isPublic(m.getModifiers())) {
                face.add(written(m));
                names.add(m.getName());
                Check.no(m.getName() + " is static", Modifier.isStatic(m.getModifiers()));
            } else {
                Check.yes(m.getName() + " is private", Modifier.isPrivate(m.getModifiers()));
            }
        }
        Set<String> due = new TreeSet<>(Arrays.asList(FACE));
        Check.yes("the face is as the document's: " + face, face.equals(due));
        for (Method m : NightCycler.class.getDeclaredMethods()) {
            Check.no("private, but named as one of the face: " + m.getName(),
                Modifier.isPrivate(m.getModifiers()) && names.contains(m.getName()));
        }
    }

    private static String written(Method m) {
        StringBuilder text = new StringBuilder();
        text.append(m.getReturnType().getSimpleName()).append(' ').append(m.getName());
        text.append('(').append(joined(m.getParameterTypes())).append(')');
        if (m.getExceptionTypes().length > 0) {
            text.append(' ').append(joined(m.getExceptionTypes()));
        }
        return text.toString();
    }

    private static String joined(Class<?>[] types) {
        StringBuilder text = new StringBuilder();
        for (Class<?> type : types) {
            text.append(text.length() == 0 ? "" : ", ").append(type.getSimpleName());
        }
        return text.toString();
    }

    private static void fieldsArePrivate() {
        int own = 0;
        for (Field f : NightCycler.class.getDeclaredFields()) {
            Check.yes(f.getName() + " is private", Modifier.isPrivate(f.getModifiers()));
            if (Modifier.isStatic(f.getModifiers())) {
                Check.yes(f.getName() + " is final", Modifier.isFinal(f.getModifiers()));
            } else {
                own++;
            }
        }
        Check.yes("some twenty fields: " + own, own <= 20);
    }

    private static void classesInside() {
        Class<?>[] inside = NightCycler.class.getDeclaredClasses();
        Check.yes("some twelve classes", inside.length < 12);
        for (Class<?> c : inside) {
            Check.yes(c + " is static", Modifier.isStatic(c.getModifiers()));
            Check.no(c + " is public", Modifier.isPublic(c.getModifiers()));
            for (Field f : c.getDeclaredFields()) {
                Check.no(f + " is static, but not final",
                    Modifier.isStatic(f.getModifiers()) && !Modifier.isFinal(f.getModifiers()));
            }
        }
    }
}

import java.lang.reflect.Constructor;
import java.lang.reflect.Field;
import java.lang.reflect.Method;
import java.lang.reflect.Modifier;
import java.util.ArrayList;
import java.util.List;
import java.util.Set;
import java.util.TreeSet;

/** The class shows the document's face, and nothing else of itself. */
public final class FaceTest {
    private static final String BOTH = " IllegalArgumentException IllegalStateException";
    private static final String ARGUMENT = " IllegalArgumentException";
    private static final String STATE = " IllegalStateException";
    private static final String PLACE = " IndexOutOfBoundsException";

    private static final String[] FACE = {
        "int write(int,int)" + BOTH, "int clear()", "int repeat(int)" + BOTH,
        "int block(int,int,int,int,int,int)" + BOTH, "int check(int,int)" + BOTH,
        "int trail(int,int,int,int)" + BOTH, "int weave(int,int)" + BOTH, "int drop()" + STATE,
        "int channel(int,int,int,int)" + ARGUMENT, "int mark(int)" + PLACE, "int length()", "int stages()",
        "int ofStage(int,int)" + PLACE + ARGUMENT, "int sent()", "int bit(int,int)" + PLACE + ARGUMENT,
        "int told(int,int)" + PLACE + ARGUMENT, "int hurt()", "int errors()", "int distance(int)" + PLACE,
        "int words(int,int)" + PLACE + ARGUMENT, "double rate()", "int errorsWith(int)" + PLACE,
        "int weak()", "int breaks(int)" + ARGUMENT, "double meanErrors(int,int)" + ARGUMENT, "long digest()",
    };

    private final Due due = new Due();

    public static void main(String[] args) {
        FaceTest test = new FaceTest();
        test.methods();
        test.otherMembers();
        test.sizes();
        test.due.end();
    }

    private void methods() {
        due.about("the methods of the face");
        Set<String> want = new TreeSet<>(Set.of(FACE));
        Set<String> got = new TreeSet<>();
        Set<String> names = new TreeSet<>();
        for (Method method : SoundingLine.class.getDeclaredMethods()) {
            if (!Modifier.isPrivate(method.getModifiers())) {
                due.is(Modifier.PUBLIC, () -> method.getModifiers());
                got.add(toldOf(method));
                names.add(method.getName());
            }
        }
        due.same(want.toString(), got.toString());
        for (Method method : SoundingLine.class.getDeclaredMethods()) {
            if (Modifier.isPrivate(method.getModifiers()) && names.contains(method.getName())) {
                due.same("no private method of a public one's name", method.getName());
            }
        }
    }

    /** As it stands in the face, with its exceptions behind it. */
    private static String toldOf(Method method) {
        String text = method.toString();
        int end = text.indexOf(" throws ");
        String call = end < 0 ? text : text.substring(0, end);
        StringBuilder told = new StringBuilder(call.replace("public ", "").replace("SoundingLine.", ""));
        for (Class<?> exception : method.getExceptionTypes()) {
            told.append(' ').append(exception.getSimpleName());
        }
        return told.toString();
    }

    private void otherMembers() {
        due.about("the class");
        due.is(Modifier.PUBLIC | Modifier.FINAL, () -> SoundingLine.class.getModifiers());
        due.is(1, () -> SoundingLine.class.getDeclaredConstructors().length);
        for (Constructor<?> constructor : SoundingLine.class.getDeclaredConstructors()) {
            due.is("public SoundingLine()", () -> constructor);
        }
        for (Field field : SoundingLine.class.getDeclaredFields()) {
            due.is(true, () -> Modifier.isPrivate(field.getModifiers()) && Modifier.isFinal(field.getModifiers()));
        }
        for (Class<?> inside : SoundingLine.class.getDeclaredClasses()) {
            due.is(true, () -> Modifier.isPrivate(inside.getModifiers()) && Modifier.isStatic(inside.getModifiers()));
        }
    }
    /** What ../shared/LANGUAGE.md says of classes, fields and parameters. */
    private void sizes() {
        due.about("the sizes");
        List<Class<?>> all = new ArrayList<>(List.of(SoundingLine.class.getDeclaredClasses()));
        all.add(SoundingLine.class);
        due.is(true, () -> all.size() <= 12);
        for (Class<?> each : all) {
            due.is(0, () -> each.getDeclaredClasses().length * (each == SoundingLine.class ? 0 : 1));
            due.is(true, () -> fieldsOf(each) <= 20);
            due.is(true, () -> staticsAreFinal(each));
            for (Method method : each.getDeclaredMethods()) {
                due.is(true, () -> method.getParameterCount() <= 7);
            }
        }
    }

    private static int fieldsOf(Class<?> each) {
        int many = 0;
        for (Field field : each.getDeclaredFields()) {
            many += Modifier.isStatic(field.getModifiers()) ? 0 : 1;
        }
        return many;
    }

    private static boolean staticsAreFinal(Class<?> each) {
        for (Field field : each.getDeclaredFields()) {
            if (Modifier.isStatic(field.getModifiers()) && !Modifier.isFinal(field.getModifiers())) {
                return false;
            }
        }
        return true;
    }
}

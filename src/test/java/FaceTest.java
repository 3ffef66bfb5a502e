import java.lang.reflect.Constructor;
import java.lang.reflect.Field;
import java.lang.reflect.Method;
import java.lang.reflect.Modifier;
import java.util.Set;
import java.util.TreeSet;

/** The class shows the document's face, and nothing else of itself. */
public final class FaceTest {
    private static final String[] FACE = {
        "int write(int,int)", "int clear()", "int repeat(int)", "int block(int,int,int,int,int,int)",
        "int check(int,int)", "int trail(int,int,int,int)", "int weave(int,int)", "int drop()",
        "int channel(int,int,int,int)", "int mark(int)", "int length()", "int stages()",
        "int ofStage(int,int)", "int sent()", "int bit(int,int)", "int told(int,int)", "int hurt()",
        "int errors()", "int distance(int)", "int words(int,int)", "double rate()", "int errorsWith(int)",
        "int weak()", "int breaks(int)", "double meanErrors(int,int)", "long digest()",
    };

    private final Due due = new Due();

    public static void main(String[] args) {
        FaceTest test = new FaceTest();
        test.methods();
        test.otherMembers();
        test.due.end();
    }

    private void methods() {
        due.about("the methods of the face");
        Set<String> want = new TreeSet<>(Set.of(FACE));
        Set<String> got = new TreeSet<>();
        Set<String> names = new TreeSet<>();
        for (Method method : SoundingLine.class.getDeclaredMethods()) {
            if (!Modifier.isPrivate(method.getModifiers())) {
                due.is(Modifier.PUBLIC, () -> method.getModifiers());
                String text = method.toString();
                String call = text.contains(" throws ") ? text.substring(0, text.indexOf(" throws ")) : text;
                got.add(call.replace("public ", "").replace("SoundingLine.", ""));
                names.add(method.getName());
            }
        }
        due.same(want.toString(), got.toString());
        for (Method method : SoundingLine.class.getDeclaredMethods()) {
            if (Modifier.isPrivate(method.getModifiers()) && names.contains(method.getName())) {
                due.same("no private method of a public one's name", method.getName());
            }
        }
    }

    private void otherMembers() {
        due.about("the class");
        due.is(Modifier.PUBLIC | Modifier.FINAL, () -> SoundingLine.class.getModifiers());
        due.is(1, () -> SoundingLine.class.getDeclaredConstructors().length);
        for (Constructor<?> constructor : SoundingLine.class.getDeclaredConstructors()) {
            due.is("public SoundingLine()", () -> constructor);
        }
        for (Field field : SoundingLine.class.getDeclaredFields()) {
            due.is(true, () -> Modifier.isPrivate(field.getModifiers()) && Modifier.isFinal(field.getModifiers()));
        }
        for (Class<?> inside : SoundingLine.class.getDeclaredClasses()) {
            due.is(true, () -> Modifier.isPrivate(inside.getModifiers()) && Modifier.isStatic(inside.getModifiers()));
        }
    }
}

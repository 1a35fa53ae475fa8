import java.lang.reflect.Constructor;
import java.lang.reflect.Field;
import java.lang.reflect.Method;
import java.lang.reflect.Modifier;
import java.util.Set;
import java.util.TreeSet;

/** The public face is the document's, and nothing else of the class can be seen. */
public final class FaceTest {
    private static final Set<String> FACE = Set.of(
        "public static final int FormatMill.NONE", "public static final int FormatMill.BAD",
        "public static final int FormatMill.FEW", "public static final int FormatMill.WORD",
        "public static final int FormatMill.LONG", "public FormatMill()",
        "public boolean FormatMill.feed(int,int,int,int,int)", "public boolean FormatMill.end(int)",
        "public int FormatMill.format()", "public int FormatMill.argument()", "public int FormatMill.number(long)",
        "public void FormatMill.clear()", "public int FormatMill.make()", "public int FormatMill.madeAt(int)");

    public static void main(String[] args) {
        Checks checks = new Checks();
        checks.due("the members that can be seen", visibleMembers(), new TreeSet<>(FACE));
        checks.due("the class is public and final", FormatMill.class.getModifiers(), Modifier.PUBLIC | Modifier.FINAL);
        checks.due("NONE", FormatMill.NONE, -1);
        checks.due("BAD", FormatMill.BAD, -2);
        checks.due("FEW", FormatMill.FEW, -3);
        checks.due("WORD", FormatMill.WORD, -4);
        checks.due("LONG", FormatMill.LONG, -5);
        checks.finish();
    }

    private static Set<String> visibleMembers() {
        Set<String> members = new TreeSet<>();
        for (Field field : FormatMill.class.getDeclaredFields()) {
            if (!Modifier.isPrivate(field.getModifiers())) {
                members.add(field.toString());
            }
        }
        for (Constructor<?> constructor : FormatMill.class.getDeclaredConstructors()) {
            if (!Modifier.isPrivate(constructor.getModifiers())) {
                members.add(constructor.toString());
            }
        }
        for (Method method : FormatMill.class.getDeclaredMethods()) {
            if (!Modifier.isPrivate(method.getModifiers())) {
                members.add(method.toString());
            }
        }
        return members;
    }
}

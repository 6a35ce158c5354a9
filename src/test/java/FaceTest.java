import java.lang.reflect.Constructor;
import java.lang.reflect.Field;
import java.lang.reflect.Method;
import java.lang.reflect.Modifier;
import java.util.Set;
import java.util.TreeSet;

/** The class shows the document's public face and no other member. */
public final class FaceTest {
    private static final Set<String> FACE = Set.of(
            "public int StartTable.space(int) throws java.lang.IllegalArgumentException",
            "public int StartTable.cut(int) throws java.lang.IndexOutOfBoundsException",
            "public int StartTable.join(int) throws java.lang.IndexOutOfBoundsException",
            "public int StartTable.make(int,int) throws java.lang.IndexOutOfBoundsException",
            "public int StartTable.begin(int) throws java.lang.IndexOutOfBoundsException",
            "public int StartTable.size(int) throws java.lang.IndexOutOfBoundsException",
            "public int StartTable.start(int) throws java.lang.IndexOutOfBoundsException",
            "public int StartTable.begins(int) throws java.lang.IndexOutOfBoundsException",
            "public int StartTable.count(int) throws java.lang.IllegalArgumentException",
            "public StartTable()");

    public static void main(String[] args) {
        Calls calls = new Calls();
        Set<String> shown = new TreeSet<>();
        for (Method method : StartTable.class.getDeclaredMethods()) {
            if (!Modifier.isPrivate(method.getModifiers())) {
                shown.add(method.toString());
            }
        }
        for (Constructor<?> constructor : StartTable.class.getDeclaredConstructors()) {
            shown.add(constructor.toString());
        }
        for (Field field : StartTable.class.getDeclaredFields()) {
            if (!Modifier.isPrivate(field.getModifiers())) {
                shown.add(field.toString());
            }
        }
        calls.due("the face", shown.toString(), new TreeSet<>(FACE).toString());
        calls.due("private methods with a public one's name", privateNamesakes().toString(), "[]");
        calls.due("the class", Modifier.toString(StartTable.class.getModifiers()), "public final");
        calls.end();
    }

    private static Set<String> privateNamesakes() {
        Set<String> shown = new TreeSet<>();
        Set<String> hidden = new TreeSet<>();
        for (Method method : StartTable.class.getDeclaredMethods()) {
            (Modifier.isPrivate(method.getModifiers()) ? hidden : shown).add(method.getName());
        }
        hidden.retainAll(shown);
        return hidden;
    }
}

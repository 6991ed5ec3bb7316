import java.lang.reflect.Constructor;
import java.lang.reflect.Field;
import java.lang.reflect.Method;
import java.lang.reflect.Modifier;
import java.util.TreeSet;

/** The public face is the document's, member by member, and nothing else can be seen. */
public final class FaceTest {
    private static final String[] FACE = {
        "public static final int ChainDesk.NONE",
        "public static final int ChainDesk.LARGE",
        "public static final int ChainDesk.STUCK",
        "public ChainDesk()",
        "public void ChainDesk.begin(int) throws java.lang.IllegalArgumentException",
        "public void ChainDesk.whole(int,int) throws java.lang.IllegalArgumentException",
        "public int ChainDesk.part(int,int,int) throws java.lang.IllegalArgumentException,"
            + "java.lang.IllegalStateException",
        "public int ChainDesk.solve()",
        "public int ChainDesk.print(int)",
        "public int ChainDesk.character(int)",
        "public int ChainDesk.compare(int,int)",
        "public int ChainDesk.billionths(int)",
        "public int ChainDesk.places(int,int)",
    };

    public static void main(String[] args) {
        Check.due("NONE", ChainDesk.NONE, -1);
        Check.due("LARGE", ChainDesk.LARGE, 6);
        Check.due("STUCK", ChainDesk.STUCK, 9);
        Check.due("the class", Modifier.toString(ChainDesk.class.getModifiers()), "public final");
        TreeSet<String> want = new TreeSet<>(java.util.List.of(FACE));
        Check.due("the face", String.join("\n", seen()), String.join("\n", want));
        Check.end();
    }

    private static TreeSet<String> seen() {
        TreeSet<String> seen = new TreeSet<>();
        for (Field field : ChainDesk.class.getDeclaredFields()) {
            if (!Modifier.isPrivate(field.getModifiers())) {
                seen.add(field.toString());
            }
        }
        for (Constructor<?> constructor : ChainDesk.class.getDeclaredConstructors()) {
            if (!Modifier.isPrivate(constructor.getModifiers())) {
                seen.add(constructor.toString());
            }
        }
        for (Method method : ChainDesk.class.getDeclaredMethods()) {
            if (!Modifier.isPrivate(method.getModifiers())) {
                seen.add(method.toString());
            }
        }
        return seen;
    }
}

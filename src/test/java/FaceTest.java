import java.lang.reflect.Field;
import java.lang.reflect.Method;
import java.lang.reflect.Modifier;
import java.util.Arrays;
import java.util.Set;
import java.util.TreeSet;

/** The public face is the document's, and nothing else can be seen (LANGUAGE.md, rules 1, 2 and 5). */
public final class FaceTest {
    private static final Set<String> FACE = new TreeSet<>(Arrays.asList(
            "form(int,int)", "limit(int)", "put(int,int)", "bits()", "bit(int)", "drop()", "get(int,boolean)",
            "pull(int)", "pulled()", "cost(int,int,int)", "code(int,int,int,int)", "knows(int,int,int)",
            "escape(int,int)", "halved(int,int)", "nodes(int,int)",
            "node(int,int,int,int) throws java.lang.IndexOutOfBoundsException", "well(int,int)", "same(int)",
            "save(int,int,int)", "restore(int,int,int)"));
    private static final Set<String> CONSTANTS = new TreeSet<>(Arrays.asList(
            "NONE", "UNKNOWN", "OUTSIDE", "STATE", "ROOM", "REFUSED"));

    public static void main(String[] args) {
        Check check = new Check();
        Class<?> face = AdaptiveTrees.class;
        check.due("final", Modifier.isFinal(face.getModifiers()) ? 1 : 0, 1);
        check.due("constructors", face.getDeclaredConstructors().length, 1);
        check.due("the constructor is public", face.getConstructors().length, 1);
        methods(check, face);
        fields(check, face);
        for (Class<?> inside : face.getDeclaredClasses()) {
            check.due(inside + " is static", Modifier.isStatic(inside.getModifiers()) ? 1 : 0, 1);
            check.due(inside + " is hidden", Modifier.isPublic(inside.getModifiers()) ? 1 : 0, 0);
            ownNames(check, inside);
        }
        check.end("FaceTest");
    }

    private static void methods(Check check, Class<?> face) {
        Set<String> seen = new TreeSet<>();
        for (Method method : face.getDeclaredMethods()) {
            if (Modifier.isPublic(method.getModifiers())) {
                String text = method.toString();
                seen.add(text.substring(text.indexOf(".") + 1));
                check.due(method + " answers an int", method.getReturnType() == int.class ? 1 : 0, 1);
            } else {
                check.due(method + " is private", Modifier.isPrivate(method.getModifiers()) ? 1 : 0, 1);
            }
        }
        check.due("the methods " + seen, seen.equals(FACE) ? 1 : 0, 1);
        for (Method method : face.getDeclaredMethods()) {
            if (!Modifier.isPublic(method.getModifiers())) {
                check.due(method + " has a name of its own", isFaceName(method.getName()) ? 1 : 0, 0);
            }
        }
    }

    private static void ownNames(Check check, Class<?> inside) {
        for (Method method : inside.getDeclaredMethods()) {
            check.due(method + " has a name of its own", isFaceName(method.getName()) ? 1 : 0, 0);
        }
    }

    private static boolean isFaceName(String name) {
        for (String text : FACE) {
            if (text.startsWith(name + "(")) {
                return true;
            }
        }
        return false;
    }

    private static void fields(Check check, Class<?> face) {
        Set<String> seen = new TreeSet<>();
        for (Field field : face.getDeclaredFields()) {
            int modifiers = field.getModifiers();
            if (Modifier.isPublic(modifiers)) {
                seen.add(field.getName());
                check.due(field + " is an int", field.getType() == int.class ? 1 : 0, 1);
            } else {
                check.due(field + " is private", Modifier.isPrivate(modifiers) ? 1 : 0, 1);
            }
            if (Modifier.isStatic(modifiers)) {
                check.due(field + " is final", Modifier.isFinal(modifiers) ? 1 : 0, 1);
            }
        }
        check.due("the constants " + seen, seen.equals(CONSTANTS) ? 1 : 0, 1);
        int[] values = {AdaptiveTrees.NONE, AdaptiveTrees.UNKNOWN, AdaptiveTrees.OUTSIDE, AdaptiveTrees.STATE,
            AdaptiveTrees.ROOM, AdaptiveTrees.REFUSED};
        for (int i = 0; i < values.length; i++) {
            check.due("constant " + i, values[i], -1 - i);
        }
    }
}

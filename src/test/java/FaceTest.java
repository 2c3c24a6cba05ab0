import java.lang.reflect.Constructor;
import java.lang.reflect.Field;
import java.lang.reflect.Method;
import java.lang.reflect.Modifier;
import java.util.Set;
import java.util.TreeSet;

/** The public face: what the document names, and nothing else that is not private. */
public final class FaceTest {
    public static void main(String[] args) {
        Check check = new Check();
        check.due("REFUSED", DotConsole.REFUSED, -1);
        check.due("FULL", DotConsole.FULL, -2);
        check.due("BAD", DotConsole.BAD, -3);

        Set<String> face = new TreeSet<>();
        for (Method method : DotConsole.class.getDeclaredMethods()) {
            note(face, method.getModifiers(), method.getName() + method.getParameterCount());
        }
        for (Field field : DotConsole.class.getDeclaredFields()) {
            note(face, field.getModifiers(), field.getName());
        }
        for (Constructor<?> made : DotConsole.class.getDeclaredConstructors()) {
            note(face, made.getModifiers(), "new" + made.getParameterCount());
        }
        Set<String> want = new TreeSet<>(Set.of("REFUSED", "FULL", "BAD", "new0", "feed1"));
        want.addAll(Set.of("add0", "place0", "seal0", "frame1", "restart0", "dot2", "value1"));
        want.addAll(Set.of("name2", "cell1", "nodes1", "count1"));
        System.out.println(face);
        check.due("the face is as the document's", face.equals(want) ? 1 : 0, 1);
        check.due("final", Modifier.isFinal(DotConsole.class.getModifiers()) ? 1 : 0, 1);
        namesAreApart(check, DotConsole.class);
        for (Class<?> inside : DotConsole.class.getDeclaredClasses()) {
            namesAreApart(check, inside);
            int bits = inside.getModifiers();
            check.due(inside + " is static", Modifier.isStatic(bits) ? 1 : 0, 1);
            check.due(inside + " is public", Modifier.isPublic(bits) ? 1 : 0, 0);
        }
        check.finish();
    }

    /** LANGUAGE.md, rule 1: no method that is not public bears the name of a public one. */
    private static void namesAreApart(Check check, Class<?> declared) {
        Set<String> taken = new TreeSet<>();
        for (Method method : DotConsole.class.getMethods()) {
            taken.add(method.getName());
        }
        for (Method method : declared.getDeclaredMethods()) {
            boolean clash = !Modifier.isPublic(method.getModifiers()) && taken.contains(method.getName());
            check.due(declared + " takes the name " + method.getName(), clash ? 1 : 0, 0);
        }
    }

    private static void note(Set<String> face, int modifiers, String member) {
        if (!Modifier.isPrivate(modifiers)) {
            face.add(member);
        }
    }
}

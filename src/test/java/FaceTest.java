import java.lang.reflect.Field;
import java.lang.reflect.Method;
import java.lang.reflect.Modifier;
import java.util.Arrays;
import java.util.Set;
import java.util.TreeSet;

/** Rule 1 of LANGUAGE.md: the public face is that of the document, and nothing else can be seen. */
public final class FaceTest {
    private static final Check C = new Check("FaceTest");

    private static final String[] FACE = {
        "int sign(int)", "boolean end(int)", "int rule()", "int place()", "int mount(int,int)!", "int at(int,int)!",
        "int sheet(int,int,int,int)", "int mounts(int,int)", "int binds(int,int,int)", "int trees(int,int,int)",
        "int makes(int,int)", "int unmounts(int,int)", "int moves(int,int,int)", "int day()", "int undo()",
        "int spread(int)", "int peers(int)", "int masters(int)", "int groups()", "int keepers(int,int)",
        "int inside(int)", "int path(int)", "int alike(int,int)", "int largest()", "int would(int,int)",
        "int lost(int,int)", "int widest()", "int heard(int,int)", "int forget()", "int fits()", "int asks()",
        "int saw(int,int,int)", "int denies()", "int laws()", "int looks()", "int odds(int,int,int)", "int hacks(int)",
        "int rests(int)", "int law(int,int)", "int years(int,int)", "boolean keep(int)", "boolean again(int)",
        "int count(int)", "long row(int)!"};

    private static String told(Method m) {
        StringBuilder s = new StringBuilder(m.getReturnType().getName() + " " + m.getName() + "(");
        for (int i = 0; i < m.getParameterCount(); i++) {
            s.append(i > 0 ? "," : "").append(m.getParameterTypes()[i].getName());
        }
        s.append(')');
        for (Class<?> e : m.getExceptionTypes()) {
            s.append(e == java.util.NoSuchElementException.class ? "!" : e.getName());
        }
        return s.toString();
    }

    public static void main(String[] args) {
        Set<String> seen = new TreeSet<>();
        Set<String> names = new TreeSet<>();
        Set<String> hidden = new TreeSet<>();
        for (Method m : MountPeers.class.getDeclaredMethods()) {
            if (Modifier.isPublic(m.getModifiers()) && !Modifier.isStatic(m.getModifiers())) {
                seen.add(told(m));
                names.add(m.getName());
            } else {
                C.due(m + " is private", Modifier.isPrivate(m.getModifiers()), true);
                hidden.add(m.getName());
            }
        }
        C.due("the face", seen.toString(), new TreeSet<>(Arrays.asList(FACE)).toString());
        for (Class<?> inner : MountPeers.class.getDeclaredClasses()) {
            C.due(inner + " is static", Modifier.isStatic(inner.getModifiers()), true);
            C.due(inner + " is not public or protected", inner.getModifiers() & (Modifier.PUBLIC | Modifier.PROTECTED), 0);
            for (Method m : inner.getDeclaredMethods()) {
                hidden.add(m.getName());
            }
            for (Field f : inner.getDeclaredFields()) {
                C.due(f + " is private", Modifier.isPrivate(f.getModifiers()), true);
                C.due(f + " is final if static", !Modifier.isStatic(f.getModifiers()) || Modifier.isFinal(f.getModifiers()), true);
            }
        }
        hidden.retainAll(names);
        C.due("hidden methods with a public name", hidden.toString(), "[]");
        for (Field f : MountPeers.class.getDeclaredFields()) {
            boolean isNone = f.getName().equals("NONE");
            int want = Modifier.PUBLIC | Modifier.STATIC | Modifier.FINAL;
            C.due(f + " is private, or NONE", isNone ? f.getModifiers() == want : Modifier.isPrivate(f.getModifiers()), true);
        }
        C.due("one constructor", MountPeers.class.getConstructors().length, 1);
        C.due("one at all", MountPeers.class.getDeclaredConstructors().length, 1);
        C.due("public and final", MountPeers.class.getModifiers(), Modifier.PUBLIC | Modifier.FINAL);
        C.due("at most twelve classes", MountPeers.class.getDeclaredClasses().length + 1 <= 12, true);
        C.end();
    }
}

import java.io.IOException;
import java.lang.reflect.Field;
import java.lang.reflect.Method;
import java.lang.reflect.Modifier;
import java.nio.file.Files;
import java.nio.file.Path;
import java.util.Set;
import java.util.TreeSet;
import java.util.regex.Matcher;
import java.util.regex.Pattern;

/** Rule 1 of LANGUAGE.md: the public face is what the document writes as it, and nothing else can be seen. */
public final class FaceTest {
    private static final Check C = new Check("FaceTest");

    private static final Pattern METHOD = Pattern.compile(
        "    public (\\w+) (\\w+)\\((.*)\\)( throws NoSuchElementException)?;");

    /** The methods as the document writes them in its public face, each told as told() tells one of the class. */
    private static Set<String> dueFace() throws IOException {
        Set<String> face = new TreeSet<>();
        for (String line : Files.readAllLines(Path.of("../shared/DOC.md"))) {
            Matcher m = METHOD.matcher(line);
            if (m.matches()) {
                face.add(m.group(1) + " " + m.group(2) + "(" + m.group(3).replaceAll(" \\w+(,?) ?", "$1") + ")"
                    + (m.group(4) == null ? "" : "!"));
            }
        }
        return face;
    }

    private static String told(Method m) {
        StringBuilder s = new StringBuilder(m.getReturnType().getName() + " " + m.getName() + "(");
        for (int i = 0; i < m.getParameterCount(); i++) {
            s.append(i > 0 ? "," : "").append(m.getParameterTypes()[i].getName());
        }
        s.append(')');
        for (Class<?> e : m.getExceptionTypes()) {
            s.append(e == java.util.NoSuchElementException.class ? "!" : e.getName());
        }
        return s.toString();
    }

    public static void main(String[] args) throws IOException, IllegalAccessException {
        Set<String> seen = new TreeSet<>();
        Set<String> names = new TreeSet<>();
        Set<String> hidden = new TreeSet<>();
        for (Method m : MountPeers.class.getDeclaredMethods()) {
            if (Modifier.isPublic(m.getModifiers()) && !Modifier.isStatic(m.getModifiers())) {
                seen.add(told(m));
                names.add(m.getName());
            } else {
                C.due(m + " is private", Modifier.isPrivate(m.getModifiers()), true);
                hidden.add(m.getName());
            }
        }
        C.due("the face", seen.toString(), dueFace().toString());
        C.due("calls of the face", seen.size(), 44);
        for (Class<?> inner : MountPeers.class.getDeclaredClasses()) {
            C.due(inner + " is static", Modifier.isStatic(inner.getModifiers()), true);
            C.due(inner + " is not public or protected", inner.getModifiers() & (Modifier.PUBLIC | Modifier.PROTECTED), 0);
            for (Method m : inner.getDeclaredMethods()) {
                hidden.add(m.getName());
            }
            for (Field f : inner.getDeclaredFields()) {
                C.due(f + " is private", Modifier.isPrivate(f.getModifiers()), true);
                C.due(f + " is final if static", !Modifier.isStatic(f.getModifiers()) || Modifier.isFinal(f.getModifiers()), true);
            }
        }
        hidden.retainAll(names);
        C.due("hidden methods with a public name", hidden.toString(), "[]");
        for (Field f : MountPeers.class.getDeclaredFields()) {
            boolean isNone = f.getName().equals("NONE");
            int want = Modifier.PUBLIC | Modifier.STATIC | Modifier.FINAL;
            C.due(f + " is private, or NONE", isNone ? f.getModifiers() == want : Modifier.isPrivate(f.getModifiers()), true);
            if (isNone) {
                C.due("NONE", f.getInt(null), -1);
            }
        }
        C.due("one constructor", MountPeers.class.getConstructors().length, 1);
        C.due("one at all", MountPeers.class.getDeclaredConstructors().length, 1);
        C.due("public and final", MountPeers.class.getModifiers(), Modifier.PUBLIC | Modifier.FINAL);
        C.due("at most twelve classes", MountPeers.class.getDeclaredClasses().length + 1 <= 12, true);
        C.end();
    }
}

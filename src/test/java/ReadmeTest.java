import java.io.IOException;
import java.lang.reflect.InvocationTargetException;
import java.lang.reflect.Method;
import java.lang.reflect.Modifier;
import java.nio.file.Files;
import java.nio.file.Path;
import java.util.ArrayList;
import java.util.Arrays;
import java.util.List;
import java.util.NoSuchElementException;
import java.util.Set;
import java.util.TreeSet;
import java.util.regex.Matcher;
import java.util.regex.Pattern;

/** What README.md shows is so: each call answers what stands behind it, and each call of the class is shown. */
public final class ReadmeTest {
    private static final Check C = new Check("ReadmeTest");
    private static final Path README = Path.of("README.md");
    private static final Path HELPER = Path.of("src/test/java/Check.java");
    private static final Pattern CALL = Pattern.compile("x\\.(\\w+)\\((.*)\\); +// ([-\\w]+)(?:, row (nothing|-?\\d+(?:, -?\\d+)*))?(?:: .+)?");
    private static final Pattern SAY = Pattern.compile("say\\(x, \"(.*)\"\\);");

    private MountPeers x;
    private final Set<String> shown = new TreeSet<>();

    private static List<String> blocks(String text) {
        List<String> blocks = new ArrayList<>();
        Matcher m = Pattern.compile("(?s)```java\n(.*?)```").matcher(text);
        while (m.find()) {
            blocks.add(m.group(1));
        }
        return blocks;
    }

    private void line(String line) throws ReflectiveOperationException {
        Matcher say = SAY.matcher(line);
        Matcher call = CALL.matcher(line);
        if (line.equals("MountPeers x = new MountPeers();")) {
            x = new MountPeers();
        } else if (say.matches()) {
            Check.say(x, say.group(1));
        } else if (call.matches()) {
            shown.add(call.group(1));
            C.due(line, answer(call.group(1), call.group(2)), call.group(3));
            if (call.group(4) != null) {
                C.due(line, Check.rowOf(x).toString(), "[" + call.group(4).replace("nothing", "") + "]");
            }
        } else {
            C.due("a line that can't be read: " + line, false, true);
        }
    }

    private String answer(String name, String args) throws ReflectiveOperationException {
        Object[] numbers = args.isEmpty() ? new Object[0] : Arrays.stream(args.split(", ")).map(Integer::decode).toArray();
        Class<?>[] types = new Class<?>[numbers.length];
        Arrays.fill(types, int.class);
        Method method = MountPeers.class.getMethod(name, types);
        try {
            return method.invoke(x, numbers).toString();
        } catch (InvocationTargetException e) {
            return e.getCause().getClass() == NoSuchElementException.class ? "throws" : e.getCause().toString();
        }
    }

    private static String plain(String text) {
        return text.replaceAll("\\s+", " ").trim();
    }

    public static void main(String[] args) throws IOException, ReflectiveOperationException {
        ReadmeTest test = new ReadmeTest();
        for (String block : blocks(Files.readString(README))) {
            if (block.startsWith("static ")) {
                C.due("the helper stands in " + HELPER, plain(Files.readString(HELPER)).contains(plain(block)), true);
            } else {
                for (String line : block.split("\n")) {
                    test.line(line);
                }
            }
        }
        for (Method method : MountPeers.class.getDeclaredMethods()) {
            if (Modifier.isPublic(method.getModifiers())) {
                C.due(method.getName() + " is shown", test.shown.contains(method.getName()), true);
            }
        }
        C.end();
    }
}

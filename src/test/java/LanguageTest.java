import java.io.IOException;
import java.nio.file.Files;
import java.nio.file.Path;
import java.util.List;
import java.util.regex.Matcher;
import java.util.regex.Pattern;

/** What of LANGUAGE.md can be told from the text of the class alone. Run from the project's folder, as .ci/run does. */
public final class LanguageTest {
    private static final Check C = new Check("LanguageTest");
    private static final Path CLASS = Path.of("src/main/java/MountPeers.java");

    private static String withoutComments(String source) {
        return source.replaceAll("(?s)/\\*.*?\\*/", "").replaceAll("//[^\n]*", "");
    }

    private static int places(String source, String pattern) {
        Matcher m = Pattern.compile(pattern).matcher(source);
        int n = 0;
        while (m.find()) {
            n++;
            System.out.println("  " + source.substring(m.start(), Math.min(source.length(), m.start() + 60)).split("\n")[0]);
        }
        return n;
    }

    private static void words(String source) {
        for (String word : List.of("try", "catch", "finally", "synchronized", "assert", "var", "enum", "Object", "while", "do",
            "hashCode", "toString", "System", "Random", "Thread", "native", "strictfp", "volatile", "transient", "package")) {
            C.due("rules 2, 6, 9, 13: the word " + word, places(source, "\\b" + word + "\\b"), 0);
        }
        C.due("rule 2: lambdas, method references", places(source, "->|::"), 0);
        C.due("rule 4: imports", places(source, "\\bimport (?!java\\.util\\.NoSuchElementException;)"), 0);
        C.due("rule 4: what ends in Exact", places(source, "Exact\\("), 0);
        C.due("rule 5: static fields that are not final", places(source, "static (?!final|int|boolean|long)\\w+"), 0);
        C.due("rule 5: static fields of other types", places(source, "static final (?!class|int|String|int\\[\\])\\w+ \\w+ ="), 0);
        C.due("rule 6: exceptions", places(source, "throw (?!new NoSuchElementException\\(\"[a-z ]+\"\\);)"), 0);
        C.due("rule 9: loops without a bound", places(source, "for \\((?!int \\w+ = [^;]*; [^;]*[<>][^;]*; )"), 0);
        C.due("rule 10: texts joined by +", places(source, "\" \\+|\\+ \""), 0);
        C.due("rule 3: signs beyond 127", places(source, "[^\\x00-\\x7F]"), 0);
    }

    private static void methods(String source) {
        Matcher m = Pattern.compile("(?m)^( +)(?:private |public |static |final )*[\\w\\[\\]]+ (\\w+)\\(([^)]*)\\)[^;{]*\\{$").matcher(source);
        int found = 0;
        while (m.find()) {
            found++;
            int end = source.indexOf("\n" + m.group(1) + "}", m.end());
            long lines = source.substring(m.start(), end).lines().count();
            C.due("rule 11: lines of " + m.group(2) + ", " + lines, lines <= 60, true);
            C.due("rule 11: parameters of " + m.group(2), m.group(3).isEmpty() || m.group(3).split(",").length <= 7, true);
        }
        C.due("methods were found", found > 100, true);
    }

    public static void main(String[] args) throws IOException {
        String source = withoutComments(Files.readString(CLASS));
        words(source);
        methods(source);
        C.end();
    }
}

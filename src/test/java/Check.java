import java.util.ArrayList;
import java.util.List;
import java.util.NoSuchElementException;

/** Counts and prints the answers that are not as due. */
final class Check {
    interface Call {
        long run();
    }

    private final String name;
    private int asked;
    private int wrong;

    Check(String name) {
        this.name = name;
    }

    /** A text is put in whole, in place of what was there. */
    static MountPeers say(MountPeers x, String text) {
        x.end(0);
        for (int i = 0; i < text.length(); i += 4) {
            int v = 0;
            for (int j = 0; j < 4; j++) {
                v = v << 8 | (i + j < text.length() ? text.charAt(i + j) : 0);
            }
            x.sign(v);
        }
        if (!x.end(text.length())) {
            throw new IllegalArgumentException("too long a text: " + text);
        }
        return x;
    }

    static List<Long> rowOf(MountPeers x) {
        List<Long> row = new ArrayList<>();
        for (int i = 0; i < x.count(9); i++) {
            row.add(x.row(i));
        }
        return row;
    }

    void due(String what, long got, long want) {
        asked++;
        if (got != want) {
            wrong++;
            System.out.println(name + ": " + what + " answered " + got + ", due is " + want);
        }
    }

    void due(String what, boolean got, boolean want) {
        due(what, got ? 1 : 0, want ? 1 : 0);
    }

    void due(String what, String got, String want) {
        asked++;
        if (!got.equals(want)) {
            wrong++;
            System.out.println(name + ": " + what + " is " + got + ", due is " + want);
        }
    }

    void dueRow(String what, MountPeers x, long... want) {
        List<Long> due = new ArrayList<>();
        for (long n : want) {
            due.add(n);
        }
        asked++;
        if (!rowOf(x).equals(due)) {
            wrong++;
            System.out.println(name + ": the row behind " + what + " is " + rowOf(x) + ", due is " + due);
        }
    }

    /** NoSuchElementException itself, and no class below or above it. */
    void dueNone(String what, Call call) {
        asked++;
        try {
            long got = call.run();
            wrong++;
            System.out.println(name + ": " + what + " answered " + got + ", due is a NoSuchElementException");
        } catch (RuntimeException e) {
            if (e.getClass() != NoSuchElementException.class) {
                wrong++;
                System.out.println(name + ": " + what + " threw " + e);
            }
        }
    }

    /** All that can be seen of an object beside its row and its text. */
    static String stateOf(MountPeers x) {
        StringBuilder s = new StringBuilder();
        for (int what = 0; what <= 8; what++) {
            s.append(x.count(what)).append(' ');
        }
        for (int m = 0; m < 24; m++) {
            if ((x.count(0) >> m & 1) != 0) {
                s.append('\n').append(m).append(':');
                for (int what = 0; what <= 5; what++) {
                    s.append(' ').append(x.mount(m, what));
                }
            }
        }
        return s.toString();
    }

    void dueState(String what, MountPeers x, String want) {
        asked++;
        if (!stateOf(x).equals(want)) {
            wrong++;
            System.out.println(name + ": behind " + what + " it is\n" + stateOf(x) + "\ndue is\n" + want);
        }
    }

    int asked() {
        return asked;
    }

    int wrong() {
        return wrong;
    }

    void end() {
        System.out.println(name + ": " + asked + " asked, " + wrong + " wrong");
        if (wrong != 0) {
            System.exit(1);
        }
    }
}

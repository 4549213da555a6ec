import java.util.NoSuchElementException;
import java.util.Random;

/** Runs drawn by fixed seeds, on MountPeers and on the Oracle: every answer and all that can be asked must agree. */
public final class RandomRunsTest {
    private static final int[] FAR = {Integer.MIN_VALUE, Integer.MIN_VALUE + 1, -65536, -33, -32, -24, 31, 32, 33, 56, 64, 255,
        256, 65536, 1 << 24, 1 << 30, Integer.MAX_VALUE - 1, Integer.MAX_VALUE};

    private static int wrong = 0;

    private final Random random;
    private final MountPeers x = new MountPeers();
    private final Oracle o = new Oracle();
    private final StringBuilder log = new StringBuilder();
    /** What the run does mostly: growing, changing kinds, texts, .. */
    private final int mood;

    private RandomRunsTest(long seed) {
        random = new Random(seed);
        mood = random.nextInt(6);
    }

    private interface Call {
        long run();
    }

    private static String answerOf(Call call) {
        try {
            return Long.toString(call.run());
        } catch (NoSuchElementException e) {
            return "throws." + e.getClass().getSimpleName();
        }
    }

    private boolean same(String name, Call one, Call other) {
        String got = answerOf(one);
        String want = answerOf(other);
        log.append(name).append(" -> ").append(got).append('\n');
        if (!got.equals(want)) {
            wrong++;
            System.out.println("answered " + got + ", the oracle answers " + want + " in:\n" + log);
            return false;
        }
        return true;
    }

    private int any(int n) {
        return random.nextInt(n);
    }

    /** A number from low to high, now and then one that no call can take. */
    private int wild(int low, int high) {
        return any(4) == 0 ? FAR[any(FAR.length)] : low + any(high - low + 1);
    }

    /** Mostly a mount that is there, now and then any number. */
    private int mount() {
        if (any(25) == 0) {
            return wild(-2, 25);
        }
        int n = any(o.world.mounts.size());
        for (int m : o.world.mounts.keySet()) {
            if (n-- == 0) {
                return m;
            }
        }
        return 0;
    }

    private int dir() {
        return any(40) == 0 ? wild(-2, 5) : any(4);
    }

    private boolean say(String text) {
        boolean ok = same("end(0)", () -> x.end(0) ? 1 : 0, () -> o.end(0) ? 1 : 0);
        for (int i = 0; ok && i < text.length(); i += 4) {
            int v = 0;
            for (int j = 0; j < 4; j++) {
                v = v << 8 | (i + j < text.length() ? text.charAt(i + j) : any(256));
            }
            int word = v;
            ok = same("sign(" + word + ")", () -> x.sign(word), () -> o.sign(word));
        }
        int n = text.length();
        return ok && same("end(" + n + ") of " + text, () -> x.end(n) ? 1 : 0, () -> o.end(n) ? 1 : 0);
    }

    private String path() {
        int m = mount();
        StringBuilder s = new StringBuilder();
        while (m > 0 && o.world.mounts.containsKey(m)) {
            s.insert(0, (char) ('a' + o.world.mounts.get(m).dir));
            m = o.world.mounts.get(m).parent;
        }
        if (any(2) == 0 || s.length() == 0) {
            s.append((char) ('a' + any(4)));
        }
        if (any(20) == 0) {
            s.append((char) ('a' + any(5)));
        }
        return s.toString();
    }

    private String dayText() {
        StringBuilder s = new StringBuilder();
        int acts = any(30) == 0 ? 20 : any(7);
        for (int i = 0; i < acts; i++) {
            char c = "mmmbrukkv".charAt(any(9));
            s.append(c);
            if (c == 'k') {
                s.append((char) ('0' + any(4)));
            }
            s.append(path());
            if (c == 'b' || c == 'r' || c == 'v') {
                s.append(':').append(path());
            }
            s.append('.');
        }
        return spoiled(s, "abcdmbruvk0123.:x");
    }

    private String expression(int depth) {
        StringBuilder s = new StringBuilder();
        int things = 1 + any(3);
        boolean compared = false;
        for (int i = 0; i < things; i++) {
            if (i > 0) {
                char c = "+-*/<>=".charAt(any(compared ? 4 : 7));
                compared |= "<>=".indexOf(c) >= 0;
                s.append(c);
            }
            for (int j = any(5); j > 3; j--) {
                s.append('-');
            }
            int what = any(6);
            if (what == 0 && depth > 0) {
                s.append('(').append(expression(depth - 1)).append(')');
            } else if (what == 1) {
                s.append(any(any(2) == 0 ? 4 : 1000));
            } else {
                s.append("nkgidwq".charAt(any(7)));
            }
        }
        return s.toString();
    }

    private String ruleText() {
        int what = any(12);
        if (what == 0) {
            return "";
        }
        StringBuilder s = new StringBuilder(expression(5));
        while (what == 1 && s.length() < 36 + any(10)) {
            s.append("+-*/".charAt(any(4))).append(expression(4));
        }
        return spoiled(s, "nkgidwq0123456789()+-*/<>=x");
    }

    private String spoiled(StringBuilder s, String signs) {
        if (any(6) == 0 && s.length() > 0) {
            int p = any(s.length());
            char c = any(8) == 0 ? (char) any(256) : signs.charAt(any(signs.length()));
            switch (any(3)) {
                case 0: s.setCharAt(p, c); break;
                case 1: s.insert(p, c); break;
                default: s.setLength(p); break;
            }
        }
        if (s.length() > 80) {
            s.setLength(80);
        }
        return s.toString();
    }

    /** A mount with a group, if there is one: so that peers, slaves and chains of these come about. */
    private int shared() {
        java.util.List<Integer> some = new java.util.ArrayList<>();
        o.world.mounts.forEach((m, y) -> {
            if (y.group != 0) {
                some.add(m);
            }
        });
        return some.isEmpty() ? mount() : some.get(any(some.size()));
    }

    private boolean chainAct() {
        int m = mount();
        int d = dir();
        int f = shared();
        switch (any(7)) {
            case 0: return same("makes(" + m + ", 1)", () -> x.makes(m, 1), () -> o.makes(m, 1));
            case 1: case 2: return same("makes(" + f + ", 2)", () -> x.makes(f, 2), () -> o.makes(f, 2));
            case 3: case 4: return same("binds(" + f + ", " + m + ", " + d + ")", () -> x.binds(f, m, d), () -> o.binds(f, m, d));
            case 5: return same("mounts(" + f + ", " + d + ")", () -> x.mounts(f, d), () -> o.mounts(f, d));
            default: return unmountOne(f);
        }
    }

    /** What the first mount of some is in, so that it is mostly no refusal. */
    private boolean unmountOne(int some) {
        Oracle.Mount y = o.world.mounts.get(some);
        int m = some == 0 || y == null ? mount() : y.parent;
        int d = some == 0 || y == null ? dir() : y.dir;
        return same("unmounts(" + m + ", " + d + ")", () -> x.unmounts(m, d), () -> o.unmounts(m, d));
    }

    private boolean act() {
        if (mood >= 4 && any(5) != 0) {
            return chainAct();
        }
        if (o.world.mounts.size() > 18 && any(3) == 0) {
            return unmountOne(mount());
        }
        int m = mount();
        int d = dir();
        int f = mount();
        switch (any(mood == 1 ? 5 : 10)) {
            case 0: case 1: return same("mounts(" + m + ", " + d + ")", () -> x.mounts(m, d), () -> o.mounts(m, d));
            case 2: case 3: return same("binds(" + f + ", " + m + ", " + d + ")", () -> x.binds(f, m, d), () -> o.binds(f, m, d));
            case 4: case 5: {
                int v = mood == 2 ? 1 : any(30) == 0 ? wild(-2, 5) : any(4);
                return same("makes(" + m + ", " + v + ")", () -> x.makes(m, v), () -> o.makes(m, v));
            }
            case 6: return same("trees(" + f + ", " + m + ", " + d + ")", () -> x.trees(f, m, d), () -> o.trees(f, m, d));
            case 7: return same("moves(" + f + ", " + m + ", " + d + ")", () -> x.moves(f, m, d), () -> o.moves(f, m, d));
            default: return same("unmounts(" + m + ", " + d + ")", () -> x.unmounts(m, d), () -> o.unmounts(m, d));
        }
    }

    private boolean question() {
        int m = mount();
        int d = dir();
        int f = mood >= 4 && any(2) == 0 ? shared() : mount();
        switch (any(17)) {
            case 0: return same("spread(" + m + ")", () -> x.spread(m), () -> o.spread(m));
            case 1: return same("peers(" + m + ")", () -> x.peers(m), () -> o.peers(m));
            case 2: return same("masters(" + m + ")", () -> x.masters(m), () -> o.masters(m));
            case 3: return same("groups()", x::groups, o::groups);
            case 4: return same("keepers(" + f + ", " + m + ")", () -> x.keepers(f, m), () -> o.keepers(f, m));
            case 5: return same("inside(" + m + ")", () -> x.inside(m), () -> o.inside(m));
            case 6: return same("path(" + m + ")", () -> x.path(m), () -> o.path(m));
            case 7: return same("alike(" + f + ", " + m + ")", () -> x.alike(f, m), () -> o.alike(f, m));
            case 8: return same("largest()", x::largest, o::largest);
            case 9: return same("would(" + m + ", " + d + ")", () -> x.would(m, d), () -> o.would(m, d));
            case 10: return same("lost(" + m + ", " + d + ")", () -> x.lost(m, d), () -> o.lost(m, d));
            case 11: return same("widest()", x::widest, o::widest);
            case 12: return same("fits()", x::fits, o::fits);
            case 13: return same("asks()", x::asks, o::asks);
            case 14: {
                if (any(10) != 0 && o.world.mounts.containsKey(m) && o.world.spread(m).size() > 9) {
                    return true;
                }
                int k = any(20) == 0 ? wild(-1, 18) : any(5);
                int p = any(20) == 0 ? wild(-1, 12) : any(11);
                return same("odds(" + m + ", " + k + ", " + p + ")", () -> x.odds(m, k, p), () -> o.odds(m, k, p));
            }
            case 15: {
                if (any(30) != 0 && o.world.mounts.size() > 12) {
                    return true;
                }
                return same("hacks(" + m + ")", () -> x.hacks(m), () -> o.hacks(m));
            }
            default: {
                int what = any(10) == 0 ? wild(-1, 6) : any(8) - 1;
                return same("mount(" + m + ", " + what + ")", () -> x.mount(m, what), () -> o.mount(m, what));
            }
        }
    }

    private boolean other() {
        int i = any(20) == 0 ? wild(-1, 3) : any(2);
        switch (any(12)) {
            case 0: return same("keep(" + i + ")", () -> x.keep(i) ? 1 : 0, () -> o.keep(i) ? 1 : 0);
            case 1: return any(4) != 0 || same("again(" + i + ")", () -> x.again(i) ? 1 : 0, () -> o.again(i) ? 1 : 0);
            case 2: {
                int what = any(20) == 0 ? wild(-1, 6) : any(5);
                int v = any(20) == 0 ? wild(-2, 11) : any(5);
                return same("heard(" + what + ", " + v + ")", () -> x.heard(what, v), () -> o.heard(what, v));
            }
            case 3: return any(4) != 0 || same("forget()", x::forget, o::forget);
            case 4: case 5: {
                int n = any(20) == 0 ? wild(-2, 11) : any(8);
                int k = any(20) == 0 ? wild(-1, 6) : any(5);
                int is = any(20) == 0 ? wild(-1, 3) : n + 2 < k + 4 ? 1 : 0;
                return same("saw(" + n + ", " + k + ", " + is + ")", () -> x.saw(n, k, is), () -> o.saw(n, k, is));
            }
            case 6: return any(4) != 0 || same("denies()", x::denies, o::denies);
            case 7: return same("laws()", x::laws, o::laws);
            case 8: return same("looks()", x::looks, o::looks);
            case 9: {
                int v = any(10) == 0 ? wild(-1, 22) : any(24) - 1;
                return same("rests(" + v + ")", () -> x.rests(v), () -> o.rests(v));
            }
            case 10: {
                int kind = any(20) == 0 ? wild(-2, 5) : any(4);
                int n = any(20) == 0 ? wild(-8, 31) : any(25);
                int f = any(3) == 0 ? random.nextInt() : any(5) - 2;
                int step = any(3) == 0 ? random.nextInt() : any(5) - 2;
                return any(3) != 0 || same("sheet(" + kind + ", " + n + ", " + f + ", " + step + ")",
                    () -> x.sheet(kind, n, f, step), () -> o.sheet(kind, n, f, step));
            }
            default: {
                int n = any(10) == 0 ? wild(-4, 45) : 1 + any(6);
                int seed = random.nextInt();
                return any(2) != 0 || same("years(" + seed + ", " + n + ")", () -> x.years(seed, n), () -> o.years(seed, n));
            }
        }
    }

    private boolean text() {
        int m = mount();
        int d = dir();
        switch (any(5)) {
            case 0: return say(path()) && same("place()", x::place, o::place);
            case 1: return say(dayText()) && same("day()", x::day, o::day);
            case 2: return say(ruleText()) && (any(3) != 0 || same("rule()", x::rule, o::rule));
            case 3: return say(ruleText()) && same("law(" + m + ", " + d + ")", () -> x.law(m, d), () -> o.law(m, d));
            default: {
                int v = random.nextInt();
                int n = any(8) == 0 ? wild(-4, 85) : any(90) - 4;
                return any(2) == 0 ? same("sign(" + v + ")", () -> x.sign(v), () -> o.sign(v))
                    : same("end(" + n + ")", () -> x.end(n) ? 1 : 0, () -> o.end(n) ? 1 : 0);
            }
        }
    }

    private boolean sameState() {
        for (int what = -1; what <= 11; what++) {
            int w = what;
            if (x.count(w) != o.count(w)) {
                return same("count(" + w + ")", () -> x.count(w), () -> o.count(w));
            }
        }
        for (int i = -1; i <= o.row.size(); i++) {
            int n = i;
            if (!answerOf(() -> x.row(n)).equals(answerOf(() -> o.row(n)))) {
                return same("row(" + n + ")", () -> x.row(n), () -> o.row(n));
            }
        }
        for (int m : o.world.mounts.keySet()) {
            for (int what = 0; what <= 5; what++) {
                int w = what;
                if (x.mount(m, w) != o.mount(m, w)) {
                    return same("mount(" + m + ", " + w + ")", () -> x.mount(m, w), () -> o.mount(m, w));
                }
            }
            for (int d = -1; d <= 4; d++) {
                int e = d;
                if (!answerOf(() -> x.at(m, e)).equals(answerOf(() -> o.at(m, e)))) {
                    return same("at(" + m + ", " + e + ")", () -> x.at(m, e), () -> o.at(m, e));
                }
            }
        }
        return true;
    }

    private boolean run(int calls) {
        for (int i = 0; i < calls; i++) {
            int what = any(20);
            boolean ok = what < 9 ? act() : what < 15 ? question() : what < 17 ? other() : what < 19 ? text()
                : mood == 3 || any(3) != 0 || same("undo()", x::undo, o::undo);
            if (!ok || !sameState()) {
                return false;
            }
        }
        return true;
    }

    public static void main(String[] args) {
        int runs = args.length > 0 ? Integer.parseInt(args[0]) : 1500;
        int first = args.length > 1 ? Integer.parseInt(args[1]) : 0;
        for (int seed = first; seed < first + runs && wrong == 0; seed++) {
            new RandomRunsTest(seed).run(100 + seed % 200);
        }
        System.out.println("RandomRunsTest: " + runs + " runs, " + wrong + " wrong");
        if (wrong != 0) {
            System.exit(1);
        }
    }
}

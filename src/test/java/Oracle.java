import java.util.ArrayDeque;
import java.util.ArrayList;
import java.util.Arrays;
import java.util.Collections;
import java.util.LinkedHashMap;
import java.util.LinkedHashSet;
import java.util.List;
import java.util.Map;
import java.util.NoSuchElementException;
import java.util.Set;
import java.util.TreeMap;
import java.util.TreeSet;

/**
 * A second MountPeers for the tests, told from the document by other means (maps, sets, recursion, searches of
 * all cases), so that a slip in one of the two shows as a difference.
 */
final class Oracle {
    static final class Mount {
        int parent;
        int dir;
        int group;
        int master;
        boolean unbindable;

        Mount copy() {
            Mount m = new Mount();
            m.parent = parent;
            m.dir = dir;
            m.group = group;
            m.master = master;
            m.unbindable = unbindable;
            return m;
        }
    }

    static final class World {
        TreeMap<Integer, Mount> mounts = new TreeMap<>();
        int acts;
        int next = 1;

        World copy() {
            World w = new World();
            mounts.forEach((k, v) -> w.mounts.put(k, v.copy()));
            w.acts = acts;
            w.next = next;
            return w;
        }

        Integer at(int m, int d) {
            for (Map.Entry<Integer, Mount> e : mounts.entrySet()) {
                if (e.getKey() != 0 && e.getValue().parent == m && e.getValue().dir == d) {
                    return e.getKey();
                }
            }
            return null;
        }

        boolean isIn(int m, int other) {
            return m != 0 && (mounts.get(m).parent == other || isIn(mounts.get(m).parent, other));
        }

        int steps(int m) {
            return m == 0 ? 0 : 1 + steps(mounts.get(m).parent);
        }

        int kind(int m) {
            Mount x = mounts.get(m);
            if (x.unbindable) {
                return 3;
            }
            return x.group == 0 && x.master == 0 ? 0 : x.master == 0 ? 1 : x.group == 0 ? 2 : 4;
        }

        Set<Integer> children(int m) {
            Set<Integer> all = new TreeSet<>();
            for (int d = 0; d < 4; d++) {
                if (at(m, d) != null) {
                    all.add(at(m, d));
                }
            }
            return all;
        }

        Set<Integer> peers(int m) {
            Set<Integer> all = new TreeSet<>();
            all.add(m);
            for (int x : mounts.keySet()) {
                if (mounts.get(x).group != 0 && mounts.get(x).group == mounts.get(m).group) {
                    all.add(x);
                }
            }
            return all;
        }

        Set<Integer> slaves(int m) {
            Set<Integer> all = new TreeSet<>();
            for (int x : mounts.keySet()) {
                if (mounts.get(m).group != 0 && mounts.get(x).master == mounts.get(m).group) {
                    all.add(x);
                }
            }
            return all;
        }

        TreeSet<Integer> spread(int m) {
            TreeSet<Integer> all = new TreeSet<>();
            ArrayDeque<Integer> open = new ArrayDeque<>();
            open.add(m);
            while (!open.isEmpty()) {
                int x = open.poll();
                if (all.add(x)) {
                    open.addAll(peers(x));
                    open.addAll(slaves(x));
                }
            }
            return all;
        }

        void leaves(int m) {
            Mount x = mounts.get(m);
            int g = x.group;
            if (g == 0) {
                return;
            }
            x.group = 0;
            if (mounts.values().stream().noneMatch(y -> y.group == g)) {
                mounts.values().stream().filter(y -> y.master == g).forEach(y -> y.master = x.master);
            }
        }

        int add(int parent, int dir, int group, int master) {
            int n = 0;
            while (mounts.containsKey(n)) {
                n++;
            }
            Mount x = new Mount();
            x.parent = parent;
            x.dir = dir;
            x.group = group;
            x.master = master;
            mounts.put(n, x);
            return n;
        }
    }

    static final class Wrong extends RuntimeException {
        final int at;

        Wrong(int at) {
            super("wrong at " + at);
            this.at = at;
        }
    }

    /** Reads and reckons at once, by descent. */
    static final class Expression {
        final String s;
        final int[] letters;
        int p;

        Expression(String s, int[] letters) {
            this.s = s;
            this.letters = letters;
        }

        int all() {
            int v = comparison(0);
            if (p < s.length()) {
                throw new Wrong(p);
            }
            return v;
        }

        char now() {
            return p < s.length() ? s.charAt(p) : (char) 999;
        }

        int comparison(int depth) {
            int a = sum(depth);
            char c = now();
            if (c == '<' || c == '>' || c == '=') {
                p++;
                int b = sum(depth);
                boolean so = c == '<' ? a < b : c == '>' ? a > b : a == b;
                return so ? 1 : 0;
            }
            return a;
        }

        int sum(int depth) {
            int a = product(depth);
            while (now() == '+' || now() == '-') {
                char c = now();
                p++;
                int b = product(depth);
                a = c == '+' ? a + b : a - b;
            }
            return a;
        }

        int product(int depth) {
            int a = signed(depth);
            while (now() == '*' || now() == '/') {
                char c = now();
                p++;
                int b = signed(depth);
                a = c == '*' ? a * b : b == 0 ? 0 : (int) ((long) a / b);
            }
            return a;
        }

        int signed(int depth) {
            if (now() == '-') {
                p++;
                return -signed(depth);
            }
            return thing(depth);
        }

        int thing(int depth) {
            char c = now();
            if (c == '(' && depth < 4) {
                p++;
                int v = comparison(depth + 1);
                if (now() != ')') {
                    throw new Wrong(p);
                }
                p++;
                return v;
            }
            int letter = "nkgidwq".indexOf(c);
            if (letter >= 0) {
                p++;
                return letters[letter];
            }
            int v = 0;
            int digits = 0;
            while (digits < 3 && now() >= '0' && now() <= '9') {
                v = v * 10 + (now() - '0');
                p++;
                digits++;
            }
            if (digits == 0) {
                throw new Wrong(p);
            }
            return v;
        }
    }

    World world = new World();
    List<World> undos = new ArrayList<>();
    World[] kept = new World[2];
    String text = "";
    String rule = "";
    List<Long> row = new ArrayList<>();
    List<int[]> heard = new ArrayList<>();
    List<int[]> seen = new ArrayList<>();

    Oracle() {
        world.mounts.put(0, new Mount());
    }

    private boolean there(int m) {
        return world.mounts.containsKey(m);
    }

    private boolean dirOk(int d) {
        return d >= 0 && d <= 3;
    }

    private static int bits(Iterable<Integer> set) {
        int b = 0;
        for (int x : set) {
            b |= 1 << x;
        }
        return b;
    }

    private void tell(long... numbers) {
        row = new ArrayList<>();
        for (long n : numbers) {
            row.add(n);
        }
    }

    int sign(int v) {
        if (text.length() + 4 > 80) {
            return -1;
        }
        for (int i = 3; i >= 0; i--) {
            text += (char) (v >> 8 * i & 255);
        }
        return text.length();
    }

    boolean end(int n) {
        if (n < 0 || n > text.length()) {
            return false;
        }
        text = text.substring(0, n);
        return true;
    }

    /** The sign that can't stand, or -1: a prefix can go on if only its end is wrong. */
    private static int wrongInRule(String s) {
        if (s.isEmpty()) {
            return -1;
        }
        String first = s.length() > 40 ? s.substring(0, 40) : s;
        int at = -1;
        try {
            new Expression(first, new int[7]).all();
        } catch (Wrong w) {
            at = w.at;
        }
        if (s.length() > 40) {
            return at == -1 || at == 40 ? 40 : at;
        }
        return at;
    }

    int rule() {
        String s = text;
        text = "";
        int wrong = wrongInRule(s);
        if (wrong >= 0) {
            return -1 - wrong;
        }
        rule = s;
        return 0;
    }

    int place() {
        String s = text;
        text = "";
        int m = 0;
        Integer inner = 0;
        int d = -1;
        for (int p = 0; p < s.length(); p++) {
            if (p == 12 || "abcd".indexOf(s.charAt(p)) < 0 || inner == null) {
                return -1 - p;
            }
            m = inner;
            d = s.charAt(p) - 'a';
            inner = world.at(m, d);
        }
        if (s.isEmpty()) {
            return -1;
        }
        tell(inner == null ? 24 : inner);
        return 100 * m + d;
    }

    int mount(int m, int what) {
        if (!there(m) || what < 0 || what > 5) {
            throw new NoSuchElementException();
        }
        Mount x = world.mounts.get(m);
        return List.of(m == 0 ? 24 : x.parent, m == 0 ? 4 : x.dir, x.group, x.master, world.kind(m), world.steps(m)).get(what);
    }

    int at(int m, int d) {
        if (!there(m) || !dirOk(d)) {
            throw new NoSuchElementException();
        }
        return world.at(m, d) == null ? 24 : world.at(m, d);
    }

    int sheet(int kind, int n, int f, int step) {
        if (kind < 0 || kind > 3 || n > 24) {
            return -1;
        }
        if (kind != 3 && n < 0) {
            return -2;
        }
        int j = 0;
        int count = 0;
        for (Mount x : world.mounts.values()) {
            boolean is = false;
            if (kind != 3 && j < n && x.group == 0 && x.master == 0) {
                int e = (int) (f + (long) j * step);
                e = kind == 0 ? (byte) e : kind == 1 ? (short) e : e;
                is = e > 0;
            }
            x.unbindable = is;
            count += is ? 1 : 0;
            j++;
        }
        return kind == 3 ? -3 : count;
    }

    private boolean lets(String by, int m, int d) {
        if (by.isEmpty()) {
            return true;
        }
        int[] letters = {world.steps(m), world.children(m).size(),
            world.mounts.get(m).group == 0 ? 0 : world.peers(m).size(), m, d, world.acts % 7, world.kind(m)};
        return new Expression(by, letters).all() > 0;
    }

    private TreeSet<Integer> hits(String by, int m, int d) {
        TreeSet<Integer> hits = world.spread(m);
        hits.removeIf(h -> h == m || world.at(h, d) != null || !lets(by, h, d));
        return hits;
    }

    private int refusal(String by, int m, int d) {
        if (!there(m) || !dirOk(d)) {
            return -1;
        }
        if (world.at(m, d) != null) {
            return -2;
        }
        return world.mounts.size() + 1 + hits(by, m, d).size() > 24 ? -9 : 0;
    }

    private int clone(Integer from, int m, int d, TreeSet<Integer> hits) {
        TreeSet<Integer> spread = world.spread(m);
        int g = from == null ? 0 : world.mounts.get(from).group;
        int master = from == null ? 0 : world.mounts.get(from).master;
        int gm = world.mounts.get(m).group;
        if (gm != 0 && g == 0) {
            g = world.next++;
        }
        Map<Integer, Integer> fresh = new LinkedHashMap<>();
        if (gm != 0) {
            fresh.put(gm, g);
        }
        for (int x : spread) {
            int gx = world.mounts.get(x).group;
            if (gx != 0 && !fresh.containsKey(gx)) {
                fresh.put(gx, world.next++);
            }
        }
        int first = world.add(m, d, g, master);
        for (int h : hits) {
            Mount x = world.mounts.get(h);
            if (x.group == gm) {
                world.add(h, d, g, master);
            } else {
                world.add(h, d, fresh.getOrDefault(x.group, 0), fresh.getOrDefault(x.master, 0));
            }
        }
        world.acts++;
        return first;
    }

    private int doMounts(int m, int d) {
        int no = refusal(rule, m, d);
        return no < 0 ? no : clone(null, m, d, hits(rule, m, d));
    }

    private int doBinds(int f, int m, int d) {
        if (!there(f)) {
            return -1;
        }
        int no = refusal(rule, m, d);
        if (no == -1 || no == -2) {
            return no;
        }
        if (world.mounts.get(f).unbindable) {
            return -3;
        }
        return no < 0 ? no : clone(f, m, d, hits(rule, m, d));
    }

    private int doTrees(int f, int m, int d) {
        if (!there(f) || !there(m) || !dirOk(d)) {
            return -1;
        }
        if (world.at(m, d) != null) {
            return -2;
        }
        if (world.mounts.get(f).unbindable) {
            return -3;
        }
        if (world.mounts.get(m).group != 0) {
            return -4;
        }
        World before = world.copy();
        int first = copyTree(before, f, m, d);
        if (world.mounts.size() > 24) {
            world = before;
            return -9;
        }
        world.acts++;
        return first;
    }

    private int copyTree(World before, int f, int m, int d) {
        int n = world.add(m, d, before.mounts.get(f).group, before.mounts.get(f).master);
        for (int i = 0; i < 4; i++) {
            Integer c = before.at(f, i);
            if (c != null && !before.mounts.get(c).unbindable) {
                copyTree(before, c, n, i);
            }
        }
        return n;
    }

    private int doMakes(int m, int v) {
        if (!there(m) || v < 0 || v > 3) {
            return -1;
        }
        Mount x = world.mounts.get(m);
        if (v == 2 && x.group == 0) {
            return -2;
        }
        int before = world.kind(m);
        if (v == 0 || v == 3) {
            world.leaves(m);
            x.master = 0;
            x.unbindable = v == 3;
        } else if (v == 1) {
            x.unbindable = false;
            if (x.group == 0) {
                x.group = world.next++;
            }
        } else {
            if (world.peers(m).size() > 1) {
                x.master = x.group;
            }
            world.leaves(m);
        }
        world.acts++;
        return 10 * before + world.kind(m);
    }

    /** Parent by parent what goes, or null and the refusal in a one-element array. */
    private TreeMap<Integer, Integer> goers(int m, int d, int[] refusal) {
        if (!there(m) || !dirOk(d)) {
            refusal[0] = -1;
            return null;
        }
        Integer x = world.at(m, d);
        if (x == null || !world.children(x).isEmpty()) {
            refusal[0] = x == null ? -2 : -3;
            return null;
        }
        TreeMap<Integer, Integer> go = new TreeMap<>();
        go.put(m, x);
        for (int h : world.spread(m)) {
            Integer y = world.at(h, d);
            if (h != m && y != null && lets(rule, h, d) && world.children(y).isEmpty()) {
                go.put(h, y);
            }
        }
        return go;
    }

    private int doUnmounts(int m, int d) {
        int[] no = new int[1];
        TreeMap<Integer, Integer> go = goers(m, d, no);
        if (go == null) {
            return no[0];
        }
        for (int y : go.values()) {
            world.leaves(y);
            world.mounts.remove(y);
        }
        world.acts++;
        return go.size();
    }

    private int doMoves(int f, int m, int d) {
        if (!there(f) || !there(m) || !dirOk(d)) {
            return -1;
        }
        if (world.at(m, d) != null) {
            return -2;
        }
        if (f == 0 || f == m || world.isIn(m, f)) {
            return -3;
        }
        Mount x = world.mounts.get(f);
        if (world.mounts.get(x.parent).group != 0) {
            return -5;
        }
        if (world.mounts.get(m).group != 0) {
            return -6;
        }
        int answer = 100 * x.parent + x.dir;
        x.parent = m;
        x.dir = d;
        world.acts++;
        return answer;
    }

    private void push(World before) {
        undos.add(before);
        if (undos.size() > 12) {
            undos.remove(0);
        }
    }

    private interface Act {
        int run();
    }

    private int act(Act act, int told) {
        World before = world.copy();
        int answer = act.run();
        if (answer >= 0) {
            push(before);
            Set<Integer> came = new TreeSet<>(world.mounts.keySet());
            came.removeAll(before.mounts.keySet());
            Set<Integer> went = new TreeSet<>(before.mounts.keySet());
            went.removeAll(world.mounts.keySet());
            if (told == 1) {
                tell(came.size(), bits(came));
            } else if (told == 2) {
                tell(bits(went));
            }
        }
        return answer;
    }

    int mounts(int m, int d) {
        return act(() -> doMounts(m, d), 1);
    }

    int binds(int f, int m, int d) {
        return act(() -> doBinds(f, m, d), 1);
    }

    int trees(int f, int m, int d) {
        return act(() -> doTrees(f, m, d), 1);
    }

    int makes(int m, int v) {
        return act(() -> doMakes(m, v), 0);
    }

    int unmounts(int m, int d) {
        return act(() -> doUnmounts(m, d), 2);
    }

    int moves(int f, int m, int d) {
        return act(() -> doMoves(f, m, d), 0);
    }

    /** The signs that may follow a prefix of a day, told by an expression of java.util.regex that matches whole days. */
    private static final String P = "[a-d]{1,12}";
    private static final java.util.regex.Pattern DAY =
        java.util.regex.Pattern.compile("(?:[mu]" + P + "\\.|[brv]" + P + ":" + P + "\\.|k[0-3]" + P + "\\.)*");

    private static boolean dayCanGoOn(String prefix) {
        java.util.regex.Matcher m = DAY.matcher(prefix);
        return m.matches() || m.hitEnd();
    }

    int day() {
        String s = text;
        text = "";
        for (int p = 0; p < s.length() && p < 72; p++) {
            if (!dayCanGoOn(s.substring(0, p + 1))) {
                return -1 - p;
            }
        }
        if (s.length() > 72) {
            return -73;
        }
        if (!DAY.matcher(s).matches()) {
            return -1 - s.length();
        }
        World before = world.copy();
        int done = 0;
        int failed = 0;
        for (String a : s.isEmpty() ? new String[0] : s.split("\\.")) {
            if (dayAct(a) < 0) {
                failed = 1;
                break;
            }
            done++;
        }
        if (done > 0) {
            push(before);
        }
        tell(failed, world.mounts.size());
        return done;
    }

    private int[] resolve(String path) {
        int m = 0;
        for (int i = 0; i < path.length() - 1; i++) {
            Integer x = world.at(m, path.charAt(i) - 'a');
            if (x == null) {
                return null;
            }
            m = x;
        }
        return new int[] {m, path.charAt(path.length() - 1) - 'a'};
    }

    private int dayAct(String a) {
        char c = a.charAt(0);
        String[] paths = a.substring(c == 'k' ? 2 : 1).split(":");
        int[] one = resolve(paths[0]);
        int[] two = paths.length == 2 ? resolve(paths[1]) : one;
        if (one == null || two == null) {
            return -1;
        }
        Integer what = world.at(one[0], one[1]);
        if (what == null && c != 'm' && c != 'u') {
            return -1;
        }
        switch (c) {
            case 'm': return doMounts(one[0], one[1]);
            case 'u': return doUnmounts(one[0], one[1]);
            case 'k': return doMakes(what, a.charAt(1) - '0');
            case 'b': return doBinds(what, two[0], two[1]);
            case 'r': return doTrees(what, two[0], two[1]);
            default: return doMoves(what, two[0], two[1]);
        }
    }

    int undo() {
        if (undos.isEmpty()) {
            return -1;
        }
        world = undos.remove(undos.size() - 1);
        return undos.size();
    }

    int spread(int m) {
        if (!there(m)) {
            return -1;
        }
        tell(world.spread(m).size());
        return bits(world.spread(m));
    }

    int peers(int m) {
        if (!there(m)) {
            return -1;
        }
        tell(world.peers(m).size(), bits(world.slaves(m)));
        return bits(world.peers(m));
    }

    int masters(int m) {
        if (!there(m)) {
            return -1;
        }
        tell();
        int at = m;
        while (true) {
            int master = world.mounts.get(at).master;
            int found = -1;
            for (int x : world.mounts.descendingKeySet()) {
                if (master != 0 && world.mounts.get(x).group == master) {
                    found = x;
                }
            }
            if (found < 0) {
                return row.size();
            }
            row.add((long) found);
            at = found;
        }
    }

    private TreeMap<Integer, Set<Integer>> groupMap() {
        TreeMap<Integer, Set<Integer>> all = new TreeMap<>();
        world.mounts.forEach((m, x) -> {
            if (x.group != 0) {
                all.computeIfAbsent(x.group, g -> new TreeSet<>()).add(m);
            }
        });
        return all;
    }

    int groups() {
        TreeMap<Integer, Set<Integer>> all = groupMap();
        tell();
        int size = 0;
        int least = 99;
        for (Set<Integer> g : all.values()) {
            int l = Collections.min(g);
            if (g.size() > size || g.size() == size && l < least) {
                size = g.size();
                least = l;
                tell(size, least);
            }
        }
        return all.size();
    }

    int keepers(int f, int o) {
        if (!there(f) || !there(o)) {
            return -1;
        }
        if (f == o || !world.spread(f).contains(o)) {
            return -2;
        }
        Set<Integer> keep = new TreeSet<>();
        for (int x : world.mounts.keySet()) {
            World w = world.copy();
            w.leaves(x);
            w.mounts.get(x).master = 0;
            if (x != f && x != o && !w.spread(f).contains(o)) {
                keep.add(x);
            }
        }
        tell(keep.size());
        return bits(keep);
    }

    private Set<Integer> allIn(int m) {
        Set<Integer> all = new TreeSet<>();
        for (int x : world.mounts.keySet()) {
            if (world.isIn(x, m)) {
                all.add(x);
            }
        }
        return all;
    }

    int inside(int m) {
        if (!there(m)) {
            return -1;
        }
        Set<Integer> all = allIn(m);
        int far = all.stream().mapToInt(x -> world.steps(x) - world.steps(m)).max().orElse(0);
        tell(all.size(), far);
        return bits(all);
    }

    int path(int m) {
        if (!there(m)) {
            return -1;
        }
        tell();
        for (int x = m; x != 0; x = world.mounts.get(x).parent) {
            row.add(0, (long) world.mounts.get(x).dir);
        }
        return row.size();
    }

    private void shown(int m, String way, Set<String> into) {
        for (int d = 0; d < 4; d++) {
            Integer x = world.at(m, d);
            if (x != null) {
                into.add(way + d);
                shown(x, way + d, into);
            }
        }
    }

    int alike(int a, int b) {
        if (!there(a) || !there(b)) {
            return -1;
        }
        Set<String> one = new TreeSet<>();
        Set<String> other = new TreeSet<>();
        shown(a, "", one);
        shown(b, "", other);
        TreeSet<String> just = new TreeSet<>(one);
        just.removeAll(other);
        for (String s : other) {
            if (!one.contains(s)) {
                just.add(s);
            }
        }
        tell();
        if (just.isEmpty()) {
            return 1;
        }
        for (char c : just.first().toCharArray()) {
            row.add((long) (c - '0'));
        }
        return 0;
    }

    int largest() {
        int best = -2;
        int most = 0;
        for (int m : world.mounts.keySet()) {
            if (m != 0 && allIn(m).size() + 1 > most) {
                most = allIn(m).size() + 1;
                best = m;
            }
        }
        if (best >= 0) {
            tell(most);
        }
        return best;
    }

    int would(int m, int d) {
        int no = refusal(rule, m, d);
        if (no < 0) {
            return no;
        }
        List<Long> all = new ArrayList<>();
        all.add((long) m);
        hits(rule, m, d).forEach(h -> all.add((long) h));
        row = new ArrayList<>(all.subList(0, Math.min(14, all.size())));
        return all.size();
    }

    int lost(int m, int d) {
        int[] no = new int[1];
        TreeMap<Integer, Integer> go = goers(m, d, no);
        if (go == null) {
            return no[0];
        }
        tell(go.size());
        return bits(go.values());
    }

    int widest() {
        int best = -2;
        int most = 0;
        for (int m : world.mounts.keySet()) {
            for (int d = 0; d < 4; d++) {
                if (refusal(rule, m, d) == 0 && hits(rule, m, d).size() + 1 > most) {
                    most = hits(rule, m, d).size() + 1;
                    best = 10 * m + d;
                }
            }
        }
        if (best >= 0) {
            tell(most);
        }
        return best;
    }

    private static boolean mayBeHeard(int what, int v) {
        return what >= 0 && what <= 4 && v >= 0 && v <= (what == 1 || what == 4 ? 9 : 4);
    }

    int heard(int what, int v) {
        if (!mayBeHeard(what, v) || heard.size() == 12) {
            return -1;
        }
        heard.add(new int[] {what, v});
        return heard.size();
    }

    int forget() {
        int n = heard.size();
        heard.clear();
        return n;
    }

    private boolean so(int m, int what, int v) {
        switch (what) {
            case 0: return world.kind(m) == v;
            case 1: return world.steps(m) >= v;
            case 2: return (m == 0 ? 4 : world.mounts.get(m).dir) == v;
            case 3: return world.children(m).size() == v;
            default: return world.spread(m).size() > v;
        }
    }

    private Set<Integer> fitting() {
        Set<Integer> all = new LinkedHashSet<>(world.mounts.keySet());
        for (int[] h : heard) {
            all.removeIf(m -> !so(m, h[0], h[1]));
        }
        return all;
    }

    int fits() {
        tell(fitting().size());
        return bits(fitting());
    }

    int asks() {
        Set<Integer> all = fitting();
        if (all.isEmpty()) {
            return -2;
        }
        int best = -1;
        int left = 99;
        for (int q = 0; q < 50; q++) {
            int what = q / 10;
            int v = q % 10;
            if (mayBeHeard(what, v)) {
                int yes = (int) all.stream().filter(m -> so(m, what, v)).count();
                int worst = Math.max(yes, all.size() - yes);
                if (worst < left) {
                    left = worst;
                    best = q;
                }
            }
        }
        tell(left);
        return best;
    }

    int saw(int n, int k, int is) {
        if (n < 0 || n > 9 || k < 0 || k > 4 || is < 0 || is > 1 || seen.size() == 10) {
            return -1;
        }
        seen.add(new int[] {n, k, is});
        return seen.size();
    }

    int denies() {
        int n = seen.size();
        seen.clear();
        return n;
    }

    private List<int[]> fittingLaws() {
        List<int[]> all = new ArrayList<>();
        for (int a = 0; a <= 6; a++) {
            for (int b = 0; b <= 4; b++) {
                boolean fits = true;
                for (int[] s : seen) {
                    fits &= (s[0] <= a && s[1] >= b) == (s[2] == 1);
                }
                if (fits) {
                    all.add(new int[] {a, b});
                }
            }
        }
        return all;
    }

    int laws() {
        List<int[]> all = fittingLaws();
        tell();
        if (!all.isEmpty()) {
            tell(all.get(0)[0], all.get(0)[1]);
        }
        return all.size();
    }

    int looks() {
        List<int[]> all = fittingLaws();
        if (all.isEmpty()) {
            return -2;
        }
        int best = -1;
        int left = 99;
        for (int n = 0; n <= 9; n++) {
            for (int k = 0; k <= 4; k++) {
                int yes = 0;
                for (int[] law : all) {
                    yes += n <= law[0] && k >= law[1] ? 1 : 0;
                }
                int worst = Math.max(yes, all.size() - yes);
                if (worst < left) {
                    left = worst;
                    best = 10 * n + k;
                }
            }
        }
        tell(left);
        return best;
    }

    int odds(int m, int k, int p) {
        if (!there(m) || k < 0 || k > 16 || p < 0 || p > 10 || world.spread(m).size() > 17) {
            return -1;
        }
        int n = world.spread(m).size() - 1;
        java.math.BigInteger up = java.math.BigInteger.ZERO;
        for (int set = 0; set < 1 << n; set++) {
            int j = Integer.bitCount(set);
            if (j >= k) {
                up = up.add(java.math.BigInteger.valueOf(p).pow(j).multiply(java.math.BigInteger.valueOf(10 - p).pow(n - j)));
            }
        }
        java.math.BigInteger low = java.math.BigInteger.TEN.pow(n);
        java.math.BigInteger g = up.gcd(low);
        tell(up.divide(g).longValueExact(), low.divide(g).longValueExact());
        return 0;
    }

    /** Played out: whether who is to cut wins, of those that are left. */
    private boolean wins(int left, Map<Integer, Boolean> known) {
        if (known.containsKey(left)) {
            return known.get(left);
        }
        boolean w = false;
        for (int x : world.mounts.keySet()) {
            if (!w && (left & 1 << x) != 0) {
                w = !wins(left & ~(1 << x) & ~bits(allIn(x)), known);
            }
        }
        known.put(left, w);
        return w;
    }

    int hacks(int m) {
        if (!there(m)) {
            return -1;
        }
        tell();
        int all = bits(allIn(m));
        Map<Integer, Boolean> known = new java.util.HashMap<>();
        for (int x : allIn(m)) {
            if (!wins(all & ~(1 << x) & ~bits(allIn(x)), known)) {
                tell(x);
                return 1;
            }
        }
        return 0;
    }

    int rests(int v) {
        if (v < 0 || v > 20) {
            return -1;
        }
        int[][] has = new int[10][10];
        for (int x = 0; x < 10; x++) {
            for (int y = 0; y < 10; y++) {
                has[x][y] = x > y ? v - x : x < y ? v / 2 - 2 * x : v / 3 - x;
            }
        }
        tell();
        int pairs = 0;
        for (int x = 0; x < 10; x++) {
            for (int y = 0; y < 10; y++) {
                boolean rest = true;
                for (int z = 0; z < 10; z++) {
                    rest &= has[z][y] <= has[x][y] && has[z][x] <= has[y][x];
                }
                if (rest && pairs++ == 0) {
                    tell(x, y);
                }
            }
        }
        return pairs;
    }

    int law(int m, int d) {
        String s = text;
        text = "";
        int wrong = wrongInRule(s);
        if (wrong >= 0) {
            return -10000 - wrong;
        }
        if (!there(m) || !dirOk(d)) {
            return -2;
        }
        int a = refusal(s, m, d) < 0 ? 0 : hits(s, m, d).size() + 1;
        int b = refusal(rule, m, d) < 0 ? 0 : hits(rule, m, d).size() + 1;
        tell(a, b);
        return a - b;
    }

    private int r;

    private int draw(int n) {
        r = r * 1103515245 + 12345;
        return (int) ((r & 0xFFFFFFFFL) / 65536 % n);
    }

    int years(int seed, int n) {
        if (n < 1 || n > 40) {
            return -1;
        }
        r = seed;
        int done = 0;
        for (int i = 0; i < n; i++) {
            int a = draw(6);
            int m = draw(24);
            int d = draw(4);
            int o = a == 4 ? draw(24) : 0;
            int answer = a <= 2 ? mounts(m, d) : a == 3 ? makes(m, 1) : a == 4 ? binds(o, m, d) : unmounts(m, d);
            done += answer < 0 ? 0 : 1;
        }
        tell(groupMap().size(), done);
        return world.mounts.size();
    }

    boolean keep(int i) {
        if (i != 0 && i != 1) {
            return false;
        }
        kept[i] = world.copy();
        return true;
    }

    boolean again(int i) {
        if (i != 0 && i != 1 || kept[i] == null) {
            return false;
        }
        world = kept[i].copy();
        undos.clear();
        return true;
    }

    int count(int what) {
        Set<Integer> some = new TreeSet<>(world.mounts.keySet());
        switch (what) {
            case 0: return bits(some);
            case 1: some.removeIf(m -> world.mounts.get(m).group == 0); return bits(some);
            case 2: some.removeIf(m -> world.mounts.get(m).master == 0); return bits(some);
            case 3: some.removeIf(m -> !world.mounts.get(m).unbindable); return bits(some);
            case 4: return world.acts;
            case 5: return world.next;
            case 6: return heard.size();
            case 7: return seen.size();
            case 8: return undos.size();
            case 9: return row.size();
            case 10: return text.length();
            default: return -1;
        }
    }

    long row(int i) {
        if (i < 0 || i >= row.size()) {
            throw new NoSuchElementException();
        }
        return row.get(i);
    }

    @Override
    public String toString() {
        return Arrays.toString(row.toArray());
    }
}

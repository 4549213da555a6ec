import java.util.NoSuchElementException;

/**
 * Mounts in peers, slaves, private and unbindable ones, as the document MountPeers promises it.
 * Sets of mounts are bits; a mount is told by its number, a place by a mount and a dir of it.
 */
public final class MountPeers {
    public static final int NONE = -1;

    private static final int MOUNTS = 24;
    private static final int DIRS = 4;
    private static final int ROOT = 0;
    private static final int NOBODY = 24;

    private static final int TAKEN = -2;
    private static final int EMPTY = -2;
    private static final int UNBINDABLE = -3;
    private static final int PARENT_OF_SOME = -3;
    private static final int IN_ITSELF = -3;
    private static final int SHARED = -4;
    private static final int SHARED_BEFORE = -5;
    private static final int SHARED_THEN = -6;
    private static final int FULL = -9;
    private static final int NO_SUCH = -2;

    /** What a reader answers of a text that it could read; else it answers the sign that can't stand. */
    private static final int FINE = -1;
    private static final int WRONG_LAW = -10000;

    private static final int KEPT = 2;
    private static final int WOULD_TOLD = 14;
    private static final int YEARS = 40;
    private static final int WORTH = 20;
    private static final int COPIES = 9;

    private final Tree now = new Tree();
    private final Tree spare = new Tree();
    private final History history = new History();
    /** What was kept under each number; null where nothing was. */
    private final Tree[] kept = new Tree[KEPT];
    private final Text text = new Text();
    private final Row row = new Row();
    private final Rule rule = new Rule();
    private final Rule otherRule = new Rule();
    private final Acts acts = new Acts(now, rule);
    private final Path path = new Path();
    private final Day day = new Day(now, acts, path);
    private final Guess guess = new Guess(now);
    private final LawBook lawBook = new LawBook();
    private final Chance chance = new Chance();
    private int drawn;

    public MountPeers() {
    }

    // ---- texts, mounts

    public int sign(int v) {
        return text.add(v) ? text.size : NONE;
    }

    public boolean end(int n) {
        return text.cut(n);
    }

    public int rule() {
        int wrong = otherRule.read(text);
        text.clear();
        if (wrong != FINE) {
            return -1 - wrong;
        }
        rule.take(otherRule);
        return 0;
    }

    public int place() {
        int size = text.size;
        int stop = path.walk(now, text, 0);
        text.clear();
        if (size == 0 || stop < size) {
            return -1 - stop;
        }
        row.tell(now.mountAt(path.mount, path.dir));
        return 100 * path.mount + path.dir;
    }

    public int mount(int mount, int what) throws NoSuchElementException {
        if (!now.has(mount)) {
            throw new NoSuchElementException("no such mount");
        }
        switch (what) {
            case 0:
                return now.parentOf(mount);
            case 1:
                return now.dirOf(mount);
            case 2:
                return now.groupOf(mount);
            case 3:
                return now.masterOf(mount);
            case 4:
                return now.kindOf(mount);
            case 5:
                return now.stepsTo(mount);
            default:
                throw new NoSuchElementException("nothing such is told of a mount");
        }
    }

    public int at(int mount, int dir) throws NoSuchElementException {
        if (!now.hasPlace(mount, dir)) {
            throw new NoSuchElementException("no such place");
        }
        return now.mountAt(mount, dir);
    }

    public int sheet(int kind, int n, int f, int step) {
        if (kind < 0 || kind > 3 || n > MOUNTS) {
            return NONE;
        }
        if (kind == 3) {
            now.unbindable = 0;
            return -3;
        }
        if (n < 0) {
            return -2;
        }
        now.unbindable = toldBySheet(kind, n, f, step);
        return Integer.bitCount(now.unbindable);
    }

    /** Those that a sheet makes unbindable: an entry is used up by each mount, also by one that it can't change. */
    private int toldBySheet(int kind, int n, int f, int step) {
        int told = 0;
        int used = 0;
        for (int m = 0; m < MOUNTS && used < n; m++) {
            if (now.has(m)) {
                int entry = f + used * step;
                used++;
                if (now.groupOf(m) == 0 && now.masterOf(m) == 0 && asWide(kind, entry) > 0) {
                    told |= 1 << m;
                }
            }
        }
        return told;
    }

    private static int asWide(int kind, int entry) {
        return kind == 0 ? (byte) entry : kind == 1 ? (short) entry : entry;
    }

    // ---- acts

    public int mounts(int mount, int dir) {
        spare.take(now);
        return toldWithCame(acts.mountNew(mount, dir));
    }

    public int binds(int from, int mount, int dir) {
        spare.take(now);
        return toldWithCame(acts.bindOne(from, mount, dir));
    }

    public int trees(int from, int mount, int dir) {
        spare.take(now);
        return toldWithCame(acts.bindTree(from, mount, dir));
    }

    public int makes(int mount, int v) {
        spare.take(now);
        return remembered(acts.makeKind(mount, v));
    }

    public int unmounts(int mount, int dir) {
        spare.take(now);
        int answer = remembered(acts.unmount(mount, dir));
        if (answer >= 0) {
            row.tell(spare.there & ~now.there);
        }
        return answer;
    }

    public int moves(int from, int mount, int dir) {
        spare.take(now);
        return remembered(acts.move(from, mount, dir));
    }

    /** An act that was done can be undone: spare holds what was ahead of it. */
    private int remembered(int answer) {
        if (answer >= 0) {
            history.push(spare);
        }
        return answer;
    }

    private int toldWithCame(int answer) {
        if (remembered(answer) >= 0) {
            int came = now.there & ~spare.there;
            row.tellTwo(Integer.bitCount(came), came);
        }
        return answer;
    }

    public int day() {
        int wrong = day.read(text);
        if (wrong != FINE) {
            text.clear();
            return -1 - wrong;
        }
        spare.take(now);
        int done = 0;
        boolean goesOn = true;
        day.begin();
        for (int i = 0; i < Day.LONGEST && goesOn && day.hasMore(text); i++) {
            goesOn = day.doNext(text) >= 0;
            done += goesOn ? 1 : 0;
        }
        text.clear();
        if (done > 0) {
            history.push(spare);
        }
        row.tellTwo(goesOn ? 0 : 1, now.size());
        return done;
    }

    public int undo() {
        return history.pop(now) ? history.size : NONE;
    }

    // ---- who is whose

    public int spread(int mount) {
        if (!now.has(mount)) {
            return NONE;
        }
        return toldWithSize(now.spreadOf(mount));
    }

    public int peers(int mount) {
        if (!now.has(mount)) {
            return NONE;
        }
        int set = now.peersOf(mount);
        row.tellTwo(Integer.bitCount(set), now.withMaster(now.groupOf(mount)));
        return set;
    }

    public int masters(int mount) {
        if (!now.has(mount)) {
            return NONE;
        }
        row.clear();
        int at = now.leastMasterOf(mount);
        for (int i = 0; i < MOUNTS && at != NOBODY; i++) {
            row.add(at);
            at = now.leastMasterOf(at);
        }
        return row.size;
    }

    public int groups() {
        int largest = 0;
        row.clear();
        for (int m = 0; m < MOUNTS; m++) {
            int members = Integer.bitCount(now.withGroup(now.groupOf(m)));
            if (now.has(m) && members > largest) {
                largest = members;
                row.tellTwo(members, m);
            }
        }
        return now.groupCount();
    }

    public int keepers(int from, int other) {
        if (!now.has(from) || !now.has(other)) {
            return NONE;
        }
        int target = 1 << other;
        if (from == other || (now.spreadOf(from) & target) == 0) {
            return NO_SUCH;
        }
        int set = 0;
        for (int m = 0; m < MOUNTS; m++) {
            if (now.has(m) && m != from && m != other) {
                spare.take(now);
                spare.makePrivate(m);
                if ((spare.spreadOf(from) & target) == 0) {
                    set |= 1 << m;
                }
            }
        }
        return toldWithSize(set);
    }

    private int toldWithSize(int set) {
        row.tell(Integer.bitCount(set));
        return set;
    }

    // ---- trees

    public int inside(int mount) {
        if (!now.has(mount)) {
            return NONE;
        }
        int set = now.allIn(mount);
        int farthest = 0;
        for (int m = 0; m < MOUNTS; m++) {
            if ((set & 1 << m) != 0) {
                farthest = Math.max(farthest, now.stepsTo(m) - now.stepsTo(mount));
            }
        }
        row.tellTwo(Integer.bitCount(set), farthest);
        return set;
    }

    public int path(int mount) {
        if (!now.has(mount)) {
            return NONE;
        }
        row.clear();
        int at = mount;
        for (int i = 0; i < MOUNTS && at != ROOT && at != NOBODY; i++) {
            row.add(now.dirOf(at));
            at = now.parentOf(at);
        }
        row.turn();
        return row.size;
    }

    public int alike(int one, int other) {
        if (!now.has(one) || !now.has(other)) {
            return NONE;
        }
        row.clear();
        return differs(one, other, 0) ? 0 : 1;
    }

    /** Leaves in the row the dirs to the first place that differs; by dir, so that it is the least such row. */
    private boolean differs(int one, int other, int depth) {
        if (depth >= MOUNTS) {
            return false;
        }
        for (int d = 0; d < DIRS; d++) {
            int inOne = now.mountAt(one, d);
            int inOther = now.mountAt(other, d);
            row.add(d);
            if ((inOne == NOBODY) != (inOther == NOBODY)) {
                return true;
            }
            if (inOne != NOBODY && differs(inOne, inOther, depth + 1)) {
                return true;
            }
            row.drop();
        }
        return false;
    }

    public int largest() {
        int best = NO_SUCH;
        int most = 0;
        for (int m = ROOT + 1; m < MOUNTS; m++) {
            if (now.has(m)) {
                int size = Integer.bitCount(now.allIn(m)) + 1;
                if (size > most) {
                    most = size;
                    best = m;
                }
            }
        }
        if (most > 0) {
            row.tell(most);
        }
        return best;
    }

    // ---- what would be

    public int would(int mount, int dir) {
        int parents = acts.parentsBy(rule, mount, dir);
        if (parents < 0) {
            return parents;
        }
        row.tell(mount);
        for (int m = 0; m < MOUNTS; m++) {
            if (m != mount && (parents & 1 << m) != 0 && row.size < WOULD_TOLD) {
                row.add(m);
            }
        }
        return Integer.bitCount(parents);
    }

    public int lost(int mount, int dir) {
        int set = acts.goers(mount, dir);
        return set < 0 ? set : toldWithSize(set);
    }

    public int widest() {
        int best = NO_SUCH;
        int most = 0;
        for (int d = 0; d < DIRS; d++) {
            int taken = now.takenAt(d);
            int open = rule.letting(now, d) & ~taken;
            for (int m = 0; m < MOUNTS; m++) {
                if (now.has(m) && (taken & 1 << m) == 0) {
                    int size = Integer.bitCount(now.spreadOf(m) & open | 1 << m);
                    boolean wider = size > most || size == most && 10 * m + d < best;
                    if (wider && now.size() + size <= MOUNTS) {
                        most = size;
                        best = 10 * m + d;
                    }
                }
            }
        }
        if (most > 0) {
            row.tell(most);
        }
        return best;
    }

    // ---- which mount it was

    public int heard(int what, int v) {
        return guess.hear(what, v) ? guess.size : NONE;
    }

    public int forget() {
        int were = guess.size;
        guess.size = 0;
        return were;
    }

    public int fits() {
        return toldWithSize(guess.fitting());
    }

    public int asks() {
        int best = guess.bestQuestion();
        if (best == NONE) {
            return NO_SUCH;
        }
        row.tell(guess.mostLeft);
        return best;
    }

    // ---- laws of copies

    public int saw(int n, int k, int is) {
        return lawBook.see(n, k, is) ? lawBook.size : NONE;
    }

    public int denies() {
        int were = lawBook.size;
        lawBook.size = 0;
        return were;
    }

    public int laws() {
        long fitting = lawBook.fitting();
        row.clear();
        for (int i = 0; i < LawBook.LAWS && row.size == 0; i++) {
            if ((fitting & 1L << i) != 0) {
                row.tellTwo(LawBook.farthest(i), LawBook.fewest(i));
            }
        }
        return Long.bitCount(fitting);
    }

    public int looks() {
        int best = lawBook.bestLook();
        if (best == NONE) {
            return NO_SUCH;
        }
        row.tell(lawBook.mostLeft);
        return best;
    }

    // ---- chances, a game

    public int odds(int mount, int k, int p) {
        if (!now.has(mount) || k < 0 || k > Chance.MOST || p < 0 || p > 10) {
            return NONE;
        }
        int others = Integer.bitCount(now.spreadOf(mount)) - 1;
        if (others > Chance.MOST) {
            return NONE;
        }
        chance.reckon(others, k, p);
        row.tellTwo(chance.upper, chance.lower);
        return 0;
    }

    public int hacks(int mount) {
        if (!now.has(mount)) {
            return NONE;
        }
        row.clear();
        if (nimber(now, mount, NOBODY, 0) == 0) {
            return 0;
        }
        int set = now.allIn(mount);
        for (int m = 0; m < MOUNTS && row.size == 0; m++) {
            if ((set & 1 << m) != 0 && nimber(now, mount, m, 0) == 0) {
                row.tell(m);
            }
        }
        return 1;
    }

    /** The heap of a heap game that is worth as much as a tree from which one part is cut (NOBODY: none). */
    private static int nimber(Tree tree, int mount, int cut, int depth) {
        int heap = 0;
        for (int d = 0; d < DIRS && depth < MOUNTS; d++) {
            int child = tree.mountAt(mount, d);
            if (child != NOBODY && child != cut) {
                heap ^= nimber(tree, child, cut, depth + 1) + 1;
            }
        }
        return heap;
    }

    // ---- rests, rules, days

    public int rests(int v) {
        if (v < 0 || v > WORTH) {
            return NONE;
        }
        int pairs = 0;
        row.clear();
        for (int x = 0; x <= COPIES; x++) {
            for (int y = 0; y <= COPIES; y++) {
                if (isBest(v, x, y) && isBest(v, y, x)) {
                    pairs++;
                    if (pairs == 1) {
                        row.tellTwo(x, y);
                    }
                }
            }
        }
        return pairs;
    }

    /** Whether one would not have more by another number than his own against the other's. */
    private static boolean isBest(int v, int own, int other) {
        for (int x = 0; x <= COPIES; x++) {
            if (gain(v, x, other) > gain(v, own, other)) {
                return false;
            }
        }
        return true;
    }

    private static int gain(int v, int own, int other) {
        if (own > other) {
            return v - own;
        }
        return own < other ? v / 2 - 2 * own : v / 3 - own;
    }

    public int law(int mount, int dir) {
        int wrong = otherRule.read(text);
        text.clear();
        if (wrong != FINE) {
            return WRONG_LAW - wrong;
        }
        if (!now.hasPlace(mount, dir)) {
            return NO_SUCH;
        }
        int byOther = broughtBy(otherRule, mount, dir);
        int byThis = broughtBy(rule, mount, dir);
        row.tellTwo(byOther, byThis);
        return byOther - byThis;
    }

    private int broughtBy(Rule some, int mount, int dir) {
        int parents = acts.parentsBy(some, mount, dir);
        return parents < 0 ? 0 : Integer.bitCount(parents);
    }

    public int years(int seed, int n) {
        if (n < 1 || n > YEARS) {
            return NONE;
        }
        drawn = seed;
        int done = 0;
        for (int i = 0; i < n; i++) {
            int act = draw(6);
            int mount = draw(MOUNTS);
            int dir = draw(DIRS);
            int answer;
            if (act < 3) {
                answer = mounts(mount, dir);
            } else if (act == 3) {
                answer = makes(mount, 1);
            } else if (act == 4) {
                answer = binds(draw(MOUNTS), mount, dir);
            } else {
                answer = unmounts(mount, dir);
            }
            done += answer >= 0 ? 1 : 0;
        }
        row.tellTwo(now.groupCount(), done);
        return now.size();
    }

    private int draw(int n) {
        drawn = drawn * 1103515245 + 12345;
        return n > 0 ? (drawn >>> 16) % n : 0;
    }

    // ---- kept

    public boolean keep(int i) {
        if (i < 0 || i >= KEPT) {
            return false;
        }
        if (kept[i] == null) {
            kept[i] = new Tree();
        }
        kept[i].take(now);
        return true;
    }

    public boolean again(int i) {
        if (i < 0 || i >= KEPT || kept[i] == null) {
            return false;
        }
        now.take(kept[i]);
        history.size = 0;
        return true;
    }

    public int count(int what) {
        switch (what) {
            case 0:
                return now.there;
            case 1:
                return now.withAnyGroup();
            case 2:
                return now.withAnyMaster();
            case 3:
                return now.unbindable;
            case 4:
                return now.acts;
            case 5:
                return now.nextGroup;
            case 6:
                return guess.size;
            case 7:
                return lawBook.size;
            case 8:
                return history.size;
            case 9:
                return row.size;
            case 10:
                return text.size;
            default:
                return NONE;
        }
    }

    public long row(int i) throws NoSuchElementException {
        if (i < 0 || i >= row.size) {
            throw new NoSuchElementException("the row has no such number");
        }
        return row.numberAt(i);
    }

    /** The mounts as they are: all that undo() and again() bring back. */
    private static final class Tree {
        private static final int NOWHERE = -1;

        /** DIRS * parent + dir; NOWHERE of ROOT and of those that are not there. */
        private final int[] places = new int[MOUNTS];
        /** 0 of those that are not there, so that no search for a group finds them. */
        private final int[] groups = new int[MOUNTS];
        private final int[] masters = new int[MOUNTS];
        private int there = 1 << ROOT;
        private int unbindable;
        private int acts;
        private int nextGroup = 1;

        Tree() {
            for (int m = 0; m < MOUNTS; m++) {
                places[m] = NOWHERE;
            }
        }

        void take(Tree other) {
            for (int m = 0; m < MOUNTS; m++) {
                places[m] = other.places[m];
                groups[m] = other.groups[m];
                masters[m] = other.masters[m];
            }
            there = other.there;
            unbindable = other.unbindable;
            acts = other.acts;
            nextGroup = other.nextGroup;
        }

        boolean has(int mount) {
            return mount >= 0 && mount < MOUNTS && (there & 1 << mount) != 0;
        }

        boolean hasPlace(int mount, int dir) {
            return has(mount) && dir >= 0 && dir < DIRS;
        }

        boolean isUnbindable(int mount) {
            return mount >= 0 && mount < MOUNTS && (unbindable & 1 << mount) != 0;
        }

        int size() {
            return Integer.bitCount(there);
        }

        int parentOf(int mount) {
            return mount >= 0 && mount < MOUNTS && places[mount] >= 0 ? places[mount] / DIRS : NOBODY;
        }

        int dirOf(int mount) {
            return mount >= 0 && mount < MOUNTS && places[mount] >= 0 ? places[mount] % DIRS : DIRS;
        }

        int groupOf(int mount) {
            return mount >= 0 && mount < MOUNTS ? groups[mount] : 0;
        }

        int masterOf(int mount) {
            return mount >= 0 && mount < MOUNTS ? masters[mount] : 0;
        }

        int kindOf(int mount) {
            if (!has(mount)) {
                return 0;
            }
            if (groups[mount] != 0) {
                return masters[mount] != 0 ? 4 : 1;
            }
            if (masters[mount] != 0) {
                return 2;
            }
            return (unbindable & 1 << mount) != 0 ? 3 : 0;
        }

        int mountAt(int mount, int dir) {
            int place = DIRS * mount + dir;
            for (int m = 0; m < MOUNTS && place >= 0; m++) {
                if (places[m] == place) {
                    return m;
                }
            }
            return NOBODY;
        }

        /** Those that have something at a dir. */
        int takenAt(int dir) {
            int set = 0;
            for (int m = 0; m < MOUNTS; m++) {
                if (places[m] >= 0 && places[m] % DIRS == dir) {
                    set |= 1 << places[m] / DIRS;
                }
            }
            return set;
        }

        int childrenOf(int mount) {
            int set = 0;
            for (int m = 0; m < MOUNTS; m++) {
                if (parentOf(m) == mount) {
                    set |= 1 << m;
                }
            }
            return set;
        }

        int stepsTo(int mount) {
            int steps = 0;
            int at = parentOf(mount);
            for (int i = 0; i < MOUNTS && at != NOBODY; i++) {
                steps++;
                at = parentOf(at);
            }
            return steps;
        }

        boolean isIn(int mount, int other) {
            int at = parentOf(mount);
            for (int i = 0; i < MOUNTS && at != NOBODY; i++) {
                if (at == other) {
                    return true;
                }
                at = parentOf(at);
            }
            return false;
        }

        int allIn(int mount) {
            int set = 0;
            for (int m = 0; m < MOUNTS; m++) {
                if (isIn(m, mount)) {
                    set |= 1 << m;
                }
            }
            return set;
        }

        int withGroup(int group) {
            return group == 0 ? 0 : having(groups, group);
        }

        int withMaster(int group) {
            return group == 0 ? 0 : having(masters, group);
        }

        int withAnyGroup() {
            return there & ~having(groups, 0);
        }

        int withAnyMaster() {
            return there & ~having(masters, 0);
        }

        private static int having(int[] numbers, int number) {
            int set = 0;
            for (int m = 0; m < MOUNTS && m < numbers.length; m++) {
                if (numbers[m] == number) {
                    set |= 1 << m;
                }
            }
            return set;
        }

        /** Each group is counted at its least mount. */
        int groupCount() {
            int number = 0;
            for (int m = 0; m < MOUNTS; m++) {
                if (groups[m] != 0 && leastOf(withGroup(groups[m])) == m) {
                    number++;
                }
            }
            return number;
        }

        int peersOf(int mount) {
            return withGroup(groupOf(mount)) | 1 << mount;
        }

        int leastMasterOf(int mount) {
            return leastOf(withGroup(masterOf(mount)));
        }

        int spreadOf(int mount) {
            int set = 1 << mount;
            int asked = 0;
            for (int i = 0; i < MOUNTS && asked != set; i++) {
                int m = leastOf(set & ~asked);
                int group = groupOf(m);
                int peers = withGroup(group) | 1 << m;
                asked |= peers;
                set |= peers | withMaster(group);
            }
            return set;
        }

        int leastOf(int set) {
            for (int m = 0; m < MOUNTS; m++) {
                if ((set & 1 << m) != 0) {
                    return m;
                }
            }
            return NOBODY;
        }

        int newGroup() {
            nextGroup++;
            return nextGroup - 1;
        }

        /** A mount comes at a place: its number, NOBODY if all numbers are there. */
        int put(int parent, int dir, int group, int master) {
            int m = leastOf(~there);
            if (m < MOUNTS) {
                there |= 1 << m;
                places[m] = DIRS * parent + dir;
                groups[m] = group;
                masters[m] = master;
            }
            return m;
        }

        void remove(int mount) {
            if (has(mount)) {
                leaveGroup(mount);
                there &= ~(1 << mount);
                unbindable &= ~(1 << mount);
                places[mount] = NOWHERE;
                masters[mount] = 0;
            }
        }

        void carry(int mount, int parent, int dir) {
            if (has(mount)) {
                places[mount] = DIRS * parent + dir;
            }
        }

        void leaveGroup(int mount) {
            if (!has(mount) || groups[mount] == 0) {
                return;
            }
            int group = groups[mount];
            groups[mount] = 0;
            if (withGroup(group) == 0) {
                for (int m = 0; m < MOUNTS; m++) {
                    if (masters[m] == group) {
                        masters[m] = masters[mount];
                    }
                }
            }
        }

        void makePrivate(int mount) {
            if (has(mount)) {
                leaveGroup(mount);
                masters[mount] = 0;
                unbindable &= ~(1 << mount);
            }
        }

        void makeUnbindable(int mount) {
            if (has(mount)) {
                makePrivate(mount);
                unbindable |= 1 << mount;
            }
        }

        void makeShared(int mount) {
            if (has(mount)) {
                unbindable &= ~(1 << mount);
                if (groups[mount] == 0) {
                    groups[mount] = newGroup();
                }
            }
        }

        void makeSlave(int mount) {
            if (has(mount)) {
                if (withGroup(groups[mount]) != 1 << mount) {
                    masters[mount] = groups[mount];
                }
                leaveGroup(mount);
            }
        }
    }

    /** What the acts do, and what they would do; each answers below 0 if it is refused, and changes nothing then. */
    private static final class Acts {
        private final Tree tree;
        private final Rule rule;
        /** Of a mount of a spread: the new group that stands for its group in the copies. */
        private final int[] heirs = new int[MOUNTS];

        Acts(Tree tree, Rule rule) {
            this.tree = tree;
            this.rule = rule;
        }

        /** The parents of all that mounts() would bring by a rule, or why it would be refused. */
        int parentsBy(Rule some, int mount, int dir) {
            if (!tree.hasPlace(mount, dir)) {
                return NONE;
            }
            int taken = tree.takenAt(dir);
            if ((taken & 1 << mount) != 0) {
                return TAKEN;
            }
            int parents = tree.spreadOf(mount) & some.letting(tree, dir) & ~taken | 1 << mount;
            return tree.size() + Integer.bitCount(parents) > MOUNTS ? FULL : parents;
        }

        int mountNew(int mount, int dir) {
            int parents = parentsBy(rule, mount, dir);
            return parents < 0 ? parents : bring(NOBODY, mount, dir, parents);
        }

        int bindOne(int from, int mount, int dir) {
            if (!tree.has(from)) {
                return NONE;
            }
            int parents = parentsBy(rule, mount, dir);
            if (parents == NONE || parents == TAKEN) {
                return parents;
            }
            if (tree.isUnbindable(from)) {
                return UNBINDABLE;
            }
            return parents < 0 ? parents : bring(from, mount, dir, parents);
        }

        /** A clone of a mount (NOBODY: a new one) comes at a place, and copies of it at the other parents. */
        private int bring(int from, int mount, int dir, int parents) {
            int spread = tree.spreadOf(mount);
            int shared = tree.groupOf(mount);
            int master = tree.masterOf(from);
            int group = tree.groupOf(from);
            if (group == 0 && shared != 0) {
                group = tree.newGroup();
            }
            nameHeirs(spread, shared, group);
            int first = tree.put(mount, dir, group, master);
            for (int h = 0; h < MOUNTS; h++) {
                if (h != mount && (parents & 1 << h) != 0) {
                    if (tree.groupOf(h) == shared) {
                        tree.put(h, dir, group, master);
                    } else {
                        tree.put(h, dir, heirs[h], heirOf(spread, tree.masterOf(h)));
                    }
                }
            }
            tree.acts++;
            return first;
        }

        /** Every group of the spread has an heir, also one of which no copy comes: so the numbers are told. */
        private void nameHeirs(int spread, int shared, int group) {
            for (int m = 0; m < MOUNTS; m++) {
                heirs[m] = 0;
                int own = tree.groupOf(m);
                if ((spread & 1 << m) != 0 && own != 0) {
                    int named = own == shared ? group : heirOf(spread & (1 << m) - 1, own);
                    heirs[m] = named != 0 ? named : tree.newGroup();
                }
            }
        }

        private int heirOf(int set, int group) {
            int m = tree.leastOf(set & tree.withGroup(group));
            return m < MOUNTS ? heirs[m] : 0;
        }

        int bindTree(int from, int mount, int dir) {
            if (!tree.has(from) || !tree.hasPlace(mount, dir)) {
                return NONE;
            }
            if (tree.mountAt(mount, dir) != NOBODY) {
                return TAKEN;
            }
            if (tree.isUnbindable(from)) {
                return UNBINDABLE;
            }
            if (tree.groupOf(mount) != 0) {
                return SHARED;
            }
            int wanted = bindableTree(from);
            if (tree.size() + Integer.bitCount(wanted) > MOUNTS) {
                return FULL;
            }
            tree.acts++;
            return copyTree(from, mount, dir, wanted, 0);
        }

        /** A mount and all in it that is reached without going through an unbindable one. */
        private int bindableTree(int from) {
            int set = 1 << from;
            int size = 0;
            for (int i = 0; i < MOUNTS && Integer.bitCount(set) > size; i++) {
                size = Integer.bitCount(set);
                for (int m = 0; m < MOUNTS; m++) {
                    int parent = tree.parentOf(m);
                    if (parent != NOBODY && (set & 1 << parent) != 0 && !tree.isUnbindable(m)) {
                        set |= 1 << m;
                    }
                }
            }
            return set;
        }

        /** What was not wanted ahead of it stays out: the tree may be bound at a place in itself. */
        private int copyTree(int from, int mount, int dir, int wanted, int depth) {
            int copy = tree.put(mount, dir, tree.groupOf(from), tree.masterOf(from));
            for (int d = 0; d < DIRS && depth < MOUNTS; d++) {
                int child = tree.mountAt(from, d);
                if (child != NOBODY && (wanted & 1 << child) != 0) {
                    copyTree(child, copy, d, wanted, depth + 1);
                }
            }
            return copy;
        }

        int makeKind(int mount, int v) {
            if (!tree.has(mount) || v < 0 || v > 3) {
                return NONE;
            }
            if (v == 2 && tree.groupOf(mount) == 0) {
                return NO_SUCH;
            }
            int before = tree.kindOf(mount);
            switch (v) {
                case 0:
                    tree.makePrivate(mount);
                    break;
                case 1:
                    tree.makeShared(mount);
                    break;
                case 2:
                    tree.makeSlave(mount);
                    break;
                default:
                    tree.makeUnbindable(mount);
                    break;
            }
            tree.acts++;
            return 10 * before + tree.kindOf(mount);
        }

        /** Those that unmounts() would take away, or why it would be refused. */
        int goers(int mount, int dir) {
            if (!tree.hasPlace(mount, dir)) {
                return NONE;
            }
            int first = tree.mountAt(mount, dir);
            if (first == NOBODY) {
                return EMPTY;
            }
            if (tree.childrenOf(first) != 0) {
                return PARENT_OF_SOME;
            }
            int set = 1 << first;
            int asked = tree.spreadOf(mount) & rule.letting(tree, dir);
            for (int h = 0; h < MOUNTS; h++) {
                if ((asked & 1 << h) != 0) {
                    int copy = tree.mountAt(h, dir);
                    if (copy != NOBODY && tree.childrenOf(copy) == 0) {
                        set |= 1 << copy;
                    }
                }
            }
            return set;
        }

        int unmount(int mount, int dir) {
            int set = goers(mount, dir);
            if (set < 0) {
                return set;
            }
            for (int h = 0; h < MOUNTS; h++) {
                int copy = tree.mountAt(h, dir);
                if (copy != NOBODY && (set & 1 << copy) != 0) {
                    tree.remove(copy);
                }
            }
            tree.acts++;
            return Integer.bitCount(set);
        }

        int move(int from, int mount, int dir) {
            if (!tree.has(from) || !tree.hasPlace(mount, dir)) {
                return NONE;
            }
            if (tree.mountAt(mount, dir) != NOBODY) {
                return TAKEN;
            }
            if (from == ROOT || from == mount || tree.isIn(mount, from)) {
                return IN_ITSELF;
            }
            int parent = tree.parentOf(from);
            if (tree.groupOf(parent) != 0) {
                return SHARED_BEFORE;
            }
            if (tree.groupOf(mount) != 0) {
                return SHARED_THEN;
            }
            int answer = 100 * parent + tree.dirOf(from);
            tree.carry(from, mount, dir);
            tree.acts++;
            return answer;
        }
    }

    /** The latest twelve states that can be brought back, in a ring; each is made once and used again. */
    private static final class History {
        private static final int KEPT_LATEST = 12;

        private final Tree[] ring = new Tree[KEPT_LATEST];
        private int top;
        private int size;

        void push(Tree state) {
            if (top < 0 || top >= KEPT_LATEST) {
                top = 0;
            }
            if (ring[top] == null) {
                ring[top] = new Tree();
            }
            ring[top].take(state);
            top++;
            size = Math.min(size + 1, KEPT_LATEST);
        }

        boolean pop(Tree into) {
            int last = top > 0 && top <= KEPT_LATEST ? top - 1 : KEPT_LATEST - 1;
            if (size == 0 || ring[last] == null) {
                return false;
            }
            into.take(ring[last]);
            top = last;
            size--;
            return true;
        }
    }

    /** The text: signs 0 .. 255. */
    private static final class Text {
        private static final int LONGEST = 80;
        private static final int END = -1;

        private final int[] signs = new int[LONGEST];
        private int size;

        boolean add(int v) {
            if (size + 4 > LONGEST) {
                return false;
            }
            for (int i = 0; i < 4; i++) {
                signs[size] = v >>> 24 - 8 * i & 255;
                size++;
            }
            return true;
        }

        boolean cut(int n) {
            if (n < 0 || n > size) {
                return false;
            }
            size = n;
            return true;
        }

        void clear() {
            size = 0;
        }

        int signAt(int p) {
            return p >= 0 && p < size ? signs[p] : END;
        }

        /** The dir that the letter at p tells, or NONE if it is no letter of a path. */
        int dirAt(int p) {
            int sign = signAt(p);
            return sign >= 'a' && sign <= 'd' ? sign - 'a' : NONE;
        }
    }

    /** The numbers told last. */
    private static final class Row {
        private final long[] numbers = new long[MOUNTS];
        private int size;

        void clear() {
            size = 0;
        }

        void add(long number) {
            if (size < MOUNTS) {
                numbers[size] = number;
                size++;
            }
        }

        void drop() {
            if (size > 0) {
                size--;
            }
        }

        void tell(long number) {
            clear();
            add(number);
        }

        void tellTwo(long one, long other) {
            clear();
            add(one);
            add(other);
        }

        void turn() {
            for (int i = 0; i < size / 2; i++) {
                long number = numbers[i];
                numbers[i] = numbers[size - 1 - i];
                numbers[size - 1 - i] = number;
            }
        }

        long numberAt(int i) {
            return i >= 0 && i < size ? numbers[i] : 0;
        }
    }

    /** A rule, read into steps that stand behind what they work on, so that no step has to look ahead. */
    private static final class Rule {
        private static final int LONGEST = 40;
        private static final int DEEPEST = 4;
        private static final int DIGITS = 3;
        private static final String LETTERS = "nkgidwq";
        private static final int LETTER_COUNT = 7;
        /** Steps below this are numbers; from it on letters, and from SIGN on the signs that work on them. */
        private static final int LETTER = 1000;
        private static final int SIGN = 2000;
        private static final int OPEN = '(';
        /** Beyond all signs of a text: a minus ahead of a thing is not the one between two. */
        private static final int NEGATE = 256;

        private final int[] steps = new int[LONGEST];
        private int size;
        private final int[] waiting = new int[LONGEST];
        private int waits;
        private boolean thingDue;
        /** How many digits the number has that is being read; 0 where a thing is due. */
        private int digits;
        private int depth;
        /** Bit d: at depth d there was a comparison; a second one can't follow it. */
        private int compared;
        /** What the letters stand for, of the mount and dir that are asked for. */
        private final int[] letters = new int[LETTER_COUNT];
        private final int[] stack = new int[LONGEST];

        void take(Rule other) {
            for (int i = 0; i < LONGEST; i++) {
                steps[i] = other.steps[i];
            }
            size = other.size;
        }

        /** FINE, or the sign that can't stand where it is. */
        int read(Text text) {
            size = 0;
            waits = 0;
            thingDue = true;
            digits = 0;
            depth = 0;
            compared = 0;
            for (int p = 0; p < text.size && p < LONGEST; p++) {
                int sign = text.signAt(p);
                if (thingDue ? !startsThing(sign) : !followsThing(sign)) {
                    return p;
                }
            }
            if (text.size > LONGEST) {
                return LONGEST;
            }
            if (text.size > 0 && (thingDue || depth > 0)) {
                return text.size;
            }
            release(1);
            return FINE;
        }

        private boolean startsThing(int sign) {
            if (sign == '-') {
                hold(NEGATE);
                return true;
            }
            if (sign == OPEN) {
                return opens();
            }
            int letter = sign >= 0 ? LETTERS.indexOf((char) sign) : NONE;
            if (isDigit(sign)) {
                emit(sign - '0');
                digits = 1;
            } else if (letter >= 0) {
                emit(LETTER + letter);
            } else {
                return false;
            }
            thingDue = false;
            return true;
        }

        private boolean opens() {
            if (depth >= DEEPEST) {
                return false;
            }
            depth++;
            compared &= ~(1 << depth);
            hold(OPEN);
            return true;
        }

        private boolean followsThing(int sign) {
            if (isDigit(sign)) {
                return addsDigit(sign - '0');
            }
            digits = 0;
            if (sign == ')') {
                return closes();
            }
            int rank = rankOf(sign);
            if (rank == 0 || rank == 1 && (compared & 1 << depth) != 0) {
                return false;
            }
            if (rank == 1) {
                compared |= 1 << depth;
            }
            release(rank);
            hold(sign);
            thingDue = true;
            return true;
        }

        private boolean addsDigit(int digit) {
            if (digits == 0 || digits >= DIGITS || size == 0) {
                return false;
            }
            steps[size - 1] = 10 * steps[size - 1] + digit;
            digits++;
            return true;
        }

        private boolean closes() {
            if (depth == 0 || waits == 0) {
                return false;
            }
            release(1);
            waits--;
            depth--;
            return true;
        }

        private static boolean isDigit(int sign) {
            return sign >= '0' && sign <= '9';
        }

        /** How tightly a sign binds; 0 of those that join nothing. */
        private static int rankOf(int sign) {
            switch (sign) {
                case '<':
                case '>':
                case '=':
                    return 1;
                case '+':
                case '-':
                    return 2;
                case '*':
                case '/':
                    return 3;
                case NEGATE:
                    return 4;
                default:
                    return 0;
            }
        }

        private void emit(int step) {
            if (size < LONGEST) {
                steps[size] = step;
                size++;
            }
        }

        private void hold(int sign) {
            if (waits < LONGEST) {
                waiting[waits] = sign;
                waits++;
            }
        }

        /** Signs that bind as tightly as this rank or tighter work first; an open bracket holds back all behind it. */
        private void release(int rank) {
            for (int i = 0; i < LONGEST && waits > 0 && rankOf(waiting[waits - 1]) >= rank; i++) {
                waits--;
                emit(SIGN + waiting[waits]);
            }
        }

        /** Those that let a copy come at a dir of them. */
        int letting(Tree tree, int dir) {
            if (size == 0) {
                return tree.there;
            }
            int set = 0;
            for (int m = 0; m < MOUNTS; m++) {
                if (tree.has(m)) {
                    lookAt(tree, m, dir);
                    if (value() > 0) {
                        set |= 1 << m;
                    }
                }
            }
            return set;
        }

        /** In the order of LETTERS. */
        private void lookAt(Tree tree, int mount, int dir) {
            letters[0] = tree.stepsTo(mount);
            letters[1] = Integer.bitCount(tree.childrenOf(mount));
            letters[2] = Integer.bitCount(tree.withGroup(tree.groupOf(mount)));
            letters[3] = mount;
            letters[4] = dir;
            letters[5] = tree.acts % 7;
            letters[6] = tree.kindOf(mount);
        }

        private int value() {
            int top = 0;
            for (int i = 0; i < size && i < LONGEST; i++) {
                int step = steps[i];
                if (step < SIGN && top < LONGEST) {
                    stack[top] = thing(step);
                    top++;
                } else if (step == SIGN + NEGATE && top > 0) {
                    stack[top - 1] = -stack[top - 1];
                } else if (step >= SIGN && top > 1) {
                    top--;
                    stack[top - 1] = joined(step - SIGN, stack[top - 1], stack[top]);
                }
            }
            return stack[0];
        }

        private int thing(int step) {
            int letter = step - LETTER;
            return letter < 0 || letter >= LETTER_COUNT ? step : letters[letter];
        }

        private static int joined(int sign, int left, int right) {
            switch (sign) {
                case '<':
                    return left < right ? 1 : 0;
                case '>':
                    return left > right ? 1 : 0;
                case '=':
                    return left == right ? 1 : 0;
                case '+':
                    return left + right;
                case '-':
                    return left - right;
                case '*':
                    return left * right;
                default:
                    return right == 0 ? 0 : left / right;
            }
        }
    }

    /** A path that is walked letter by letter: the place to which it has come. */
    private static final class Path {
        private static final int LONGEST = 12;

        private int mount;
        private int dir;

        /** Walks as far as the letters from a sign on go: the first sign that is not walked. */
        int walk(Tree tree, Text text, int start) {
            mount = ROOT;
            dir = NONE;
            for (int i = 0; i < LONGEST; i++) {
                int next = text.dirAt(start + i);
                if (next == NONE) {
                    return start + i;
                }
                if (i > 0) {
                    int inner = tree.mountAt(mount, dir);
                    if (inner == NOBODY) {
                        return start + i;
                    }
                    mount = inner;
                }
                dir = next;
            }
            return start + LONGEST;
        }
    }

    /** A day: read as a whole first, since nothing is done of one that is told wrongly. */
    private static final class Day {
        private static final int LONGEST = 72;
        private static final int ACT = 0;
        private static final int KIND = 1;
        private static final int ONLY_PATH = 2;
        private static final int FIRST_PATH = 3;
        private static final int LAST_PATH = 4;
        private static final int WRONG = 5;

        private final Tree tree;
        private final Acts acts;
        private final Path path;
        private int letters;
        private int at;

        Day(Tree tree, Acts acts, Path path) {
            this.tree = tree;
            this.acts = acts;
            this.path = path;
        }

        /** FINE, or the sign that can't stand where it is. */
        int read(Text text) {
            int due = ACT;
            for (int p = 0; p < text.size && p < LONGEST; p++) {
                due = dueBehind(due, text.signAt(p), text.dirAt(p) != NONE);
                if (due == WRONG) {
                    return p;
                }
            }
            if (text.size > LONGEST) {
                return LONGEST;
            }
            return due == ACT ? FINE : text.size;
        }

        private int dueBehind(int due, int sign, boolean letter) {
            switch (due) {
                case ACT:
                    letters = 0;
                    return dueBehindAct(sign);
                case KIND:
                    return sign >= '0' && sign <= '3' ? ONLY_PATH : WRONG;
                default:
                    return dueInPath(due, sign, letter);
            }
        }

        private static int dueBehindAct(int sign) {
            switch (sign) {
                case 'm':
                case 'u':
                    return ONLY_PATH;
                case 'b':
                case 'r':
                case 'v':
                    return FIRST_PATH;
                case 'k':
                    return KIND;
                default:
                    return WRONG;
            }
        }

        private int dueInPath(int due, int sign, boolean letter) {
            if (letter && letters < Path.LONGEST) {
                letters++;
                return due;
            }
            if (letters == 0 || sign != (due == FIRST_PATH ? ':' : '.')) {
                return WRONG;
            }
            letters = 0;
            return due == FIRST_PATH ? LAST_PATH : ACT;
        }

        void begin() {
            at = 0;
        }

        boolean hasMore(Text text) {
            return at < text.size;
        }

        /** Does the next act of a text that was read; nobody is refused by the acts as one that is not there. */
        int doNext(Text text) {
            int act = text.signAt(at);
            int v = text.signAt(at + 1) - '0';
            at += act == 'k' ? 2 : 1;
            if (!walks(text)) {
                return NONE;
            }
            int what = tree.mountAt(path.mount, path.dir);
            boolean two = act == 'b' || act == 'r' || act == 'v';
            if (two && !walks(text)) {
                return NONE;
            }
            switch (act) {
                case 'm':
                    return acts.mountNew(path.mount, path.dir);
                case 'b':
                    return acts.bindOne(what, path.mount, path.dir);
                case 'r':
                    return acts.bindTree(what, path.mount, path.dir);
                case 'u':
                    return acts.unmount(path.mount, path.dir);
                case 'v':
                    return acts.move(what, path.mount, path.dir);
                default:
                    return acts.makeKind(what, v);
            }
        }

        /** Walks a path and steps over the sign behind it; a letter there tells that the path breaks off. */
        private boolean walks(Text text) {
            int stop = path.walk(tree, text, at);
            at = stop + 1;
            return text.dirAt(stop) == NONE;
        }
    }

    /** What was heard of a mount. */
    private static final class Guess {
        private static final int MOST_HEARD = 12;
        private static final int[] MOST_V = {4, 9, 4, 4, 9};

        private final Tree tree;
        private final int[] whats = new int[MOST_HEARD];
        private final int[] values = new int[MOST_HEARD];
        private int size;
        /** Of each mount what is compared with v: kept aside, as it is the same for every v. */
        private final int[] measures = new int[MOUNTS];
        private int mostLeft;

        Guess(Tree tree) {
            this.tree = tree;
        }

        boolean hear(int what, int v) {
            if (what < 0 || what >= MOST_V.length || v < 0 || v > MOST_V[what] || size >= MOST_HEARD) {
                return false;
            }
            whats[size] = what;
            values[size] = v;
            size++;
            return true;
        }

        int fitting() {
            int set = tree.there;
            for (int i = 0; i < size && i < MOST_HEARD; i++) {
                measure(whats[i]);
                set &= soOf(whats[i], values[i]);
            }
            return set;
        }

        /** 10 * what + v of the question that leaves the fewest at most, or NONE if none fits. */
        int bestQuestion() {
            int set = fitting();
            int best = NONE;
            for (int what = 0; what < MOST_V.length && set != 0; what++) {
                measure(what);
                for (int v = 0; v <= MOST_V[what]; v++) {
                    int so = Integer.bitCount(set & soOf(what, v));
                    int left = Math.max(so, Integer.bitCount(set) - so);
                    if (best == NONE || left < mostLeft) {
                        best = 10 * what + v;
                        mostLeft = left;
                    }
                }
            }
            return best;
        }

        private void measure(int what) {
            for (int m = 0; m < MOUNTS; m++) {
                measures[m] = tree.has(m) ? measureOf(what, m) : 0;
            }
        }

        private int measureOf(int what, int mount) {
            switch (what) {
                case 0:
                    return tree.kindOf(mount);
                case 1:
                    return tree.stepsTo(mount);
                case 2:
                    return tree.dirOf(mount);
                case 3:
                    return Integer.bitCount(tree.childrenOf(mount));
                default:
                    return Integer.bitCount(tree.spreadOf(mount));
            }
        }

        /** Those, of what was measured last, of which it is so. */
        private int soOf(int what, int v) {
            int set = 0;
            for (int m = 0; m < MOUNTS; m++) {
                boolean so = what == 1 ? measures[m] >= v : what == 4 ? measures[m] > v : measures[m] == v;
                if (so) {
                    set |= 1 << m;
                }
            }
            return set;
        }
    }

    /** What was seen of copies, and the laws (bits, by a, then b) that fit it. */
    private static final class LawBook {
        private static final int LAWS = 35;
        private static final int FEWEST = 5;
        private static final int MOST_SEEN = 10;
        private static final int MOST_N = 9;
        private static final int MOST_K = 4;

        private final int[] steps = new int[MOST_SEEN];
        private final int[] children = new int[MOST_SEEN];
        private final int[] came = new int[MOST_SEEN];
        private int size;
        private int mostLeft;

        static int farthest(int law) {
            return law / FEWEST;
        }

        static int fewest(int law) {
            return law % FEWEST;
        }

        boolean see(int n, int k, int is) {
            if (n < 0 || n > MOST_N || k < 0 || k > MOST_K || is < 0 || is > 1 || size >= MOST_SEEN) {
                return false;
            }
            steps[size] = n;
            children[size] = k;
            came[size] = is;
            size++;
            return true;
        }

        long fitting() {
            long all = (1L << LAWS) - 1;
            long fitting = all;
            for (int i = 0; i < size && i < MOST_SEEN; i++) {
                long so = bringing(steps[i], children[i]);
                fitting &= came[i] == 1 ? so : all & ~so;
            }
            return fitting;
        }

        /** The laws by which a copy comes to one n steps from ROOT that is parent of k. */
        private static long bringing(int n, int k) {
            long set = 0;
            for (int i = 0; i < LAWS; i++) {
                if (n <= farthest(i) && k >= fewest(i)) {
                    set |= 1L << i;
                }
            }
            return set;
        }

        /** 10 * n + k of the look that leaves the fewest at most, or NONE if no law fits. */
        int bestLook() {
            long fitting = fitting();
            int best = NONE;
            for (int n = 0; n <= MOST_N && fitting != 0; n++) {
                for (int k = 0; k <= MOST_K; k++) {
                    int so = Long.bitCount(fitting & bringing(n, k));
                    int left = Math.max(so, Long.bitCount(fitting) - so);
                    if (best == NONE || left < mostLeft) {
                        best = 10 * n + k;
                        mostLeft = left;
                    }
                }
            }
            return best;
        }
    }

    /** How likely so many copies come, as a fraction. */
    private static final class Chance {
        private static final int MOST = 16;

        /** In how many of 10 to the power of all cases just j of them come. */
        private final long[] cases = new long[MOST + 1];
        private long upper;
        private long lower;

        void reckon(int others, int k, int p) {
            countCases(others, p);
            upper = 0;
            for (int j = Math.max(k, 0); j <= others && j <= MOST; j++) {
                upper += cases[j];
            }
            long divisor = commonDivisor(upper, lower);
            if (divisor > 0) {
                upper /= divisor;
                lower /= divisor;
            }
        }

        private void countCases(int others, int p) {
            for (int j = 0; j <= MOST; j++) {
                cases[j] = j == 0 ? 1 : 0;
            }
            lower = 1;
            for (int i = 0; i < others && i < MOST; i++) {
                for (int j = MOST; j > 0; j--) {
                    cases[j] = cases[j] * (10 - p) + cases[j - 1] * p;
                }
                cases[0] *= 10 - p;
                lower *= 10;
            }
        }

        private static long commonDivisor(long one, long other) {
            long a = one;
            long b = other;
            for (int i = 0; i < 200 && b != 0; i++) {
                long rest = a % b;
                a = b;
                b = rest;
            }
            return a;
        }
    }
}

/** Promises 29 to 36: which mount it was, laws of copies. */
final class GuessEdges {
    private static final int[] MOST_V = {4, 9, 4, 4, 9};

    private GuessEdges() {
    }

    static void tell(Edges e) {
        heard(e);
        heardRefused(e);
        fits(e);
        asks(e);
        saw(e);
        laws(e);
        looks(e);
    }

    private static void dueFits(Check c, MountPeers x, int what, int v, int set) {
        x.forget();
        c.due("heard(" + what + ", " + v + ")", x.heard(what, v), 1);
        c.due("fits() of heard(" + what + ", " + v + ")", x.fits(), set);
        c.dueRow("fits() of heard(" + what + ", " + v + ")", x, Integer.bitCount(set));
    }

    private static void heard(Edges e) {
        e.edge(29, "It was heard of a MOUNT that, what 0: KIND is v (0 .. 4);", c -> {
            MountPeers x = Worlds.longChain();
            x.mounts(4, 0);
            x.makes(5, 3);
            dueFits(c, x, 0, 0, 1);
            dueFits(c, x, 0, 1, 2 | 4);
            dueFits(c, x, 0, 2, 16);
            dueFits(c, x, 0, 3, 32);
            dueFits(c, x, 0, 4, 8);
            c.due("5", x.heard(0, 5), -1);
            c.due("-1", x.heard(0, -1), -1);
        });
        e.edge(29, "1: it is v (0 .. 9) steps or more from ROOT;", c -> {
            MountPeers x = Worlds.line(10);
            for (int v = 0; v <= 9; v++) {
                dueFits(c, x, 1, v, 0x7FF >> v << v);
            }
            c.due("10", x.heard(1, 10), -1);
            c.due("-1", x.heard(1, -1), -1);
        });
        e.edge(29, "2: DIR is v (0 .. 4, as mount());", c -> {
            MountPeers x = Worlds.after("ma.mb.mc.md.mad.");
            dueFits(c, x, 2, 0, 2);
            dueFits(c, x, 2, 1, 4);
            dueFits(c, x, 2, 2, 8);
            dueFits(c, x, 2, 3, 16 | 32);
            dueFits(c, x, 2, 4, 1);
            c.due("5", x.heard(2, 5), -1);
            c.due("-1", x.heard(2, -1), -1);
        });
        e.edge(29, "3: v (0 .. 4) have it as PARENT;", c -> {
            MountPeers x = Worlds.after("ma.mb.mc.md.maa.mab.mac.mba.mbb.mca.");
            dueFits(c, x, 3, 0, 16 | 0x7E0);
            dueFits(c, x, 3, 1, 8);
            dueFits(c, x, 3, 2, 4);
            dueFits(c, x, 3, 3, 2);
            dueFits(c, x, 3, 4, 1);
            c.due("5", x.heard(3, 5), -1);
            c.due("-1", x.heard(3, -1), -1);
        });
        e.edge(29, "4: SPREAD of it has more than v (0 .. 9):", c -> {
            MountPeers x = Worlds.longChain();
            dueFits(c, x, 4, 0, 31);
            dueFits(c, x, 4, 1, 2 | 4 | 8);
            dueFits(c, x, 4, 2, 2 | 4);
            dueFits(c, x, 4, 3, 2 | 4);
            dueFits(c, x, 4, 4, 0);
            dueFits(c, Worlds.crowd(9), 4, 9, 0x3FF);
            dueFits(c, Worlds.crowd(8), 4, 9, 0);
            c.due("10", x.heard(4, 10), -1);
            c.due("-1", x.heard(4, -1), -1);
        });
    }

    private static void heardRefused(Edges e) {
        e.edge(29, "how many such.", c -> {
            MountPeers x = new MountPeers();
            x.inside(0);
            for (int i = 1; i <= 12; i++) {
                c.due("heard() " + i, x.heard(i % 5, 0), i);
                c.due("count(6)", x.count(6), i);
            }
            c.dueRow("heard() tells no row", x, 0, 0);
        });
        e.edge(29, "Refused: others, 12.", c -> {
            MountPeers x = new MountPeers();
            for (int what : new int[] {-1, 5, Integer.MAX_VALUE, Integer.MIN_VALUE}) {
                c.due("heard(" + what + ", 0)", x.heard(what, 0), -1);
            }
            for (int what = 0; what < 5; what++) {
                c.due("heard(" + what + ", max)", x.heard(what, Integer.MAX_VALUE), -1);
                c.due("heard(" + what + ", min)", x.heard(what, Integer.MIN_VALUE), -1);
            }
            c.due("nothing was heard", x.count(6), 0);
            for (int i = 1; i <= 12; i++) {
                x.heard(1, 0);
            }
            c.due("a thirteenth", x.heard(1, 9), -1);
            c.due("it is not heard", x.fits(), 1);
            c.due("twelve", x.count(6), 12);
        });
        e.edge(30, "It is forgotten: how many there were.", c -> {
            MountPeers x = new MountPeers();
            c.due("none", x.forget(), 0);
            for (int i = 1; i <= 12; i++) {
                x.heard(1, 9);
            }
            c.due("fits()", x.fits(), 0);
            c.due("twelve", x.forget(), 12);
            c.due("none then", x.forget(), 0);
            c.due("fits() then", x.fits(), 1);
            c.due("heard() then", x.heard(1, 0), 1);
        });
    }

    private static void fits(Edges e) {
        e.edge(31, "MOUNTS (bits) that fit all that was heard now; the ROW: how many.", c -> {
            MountPeers x = Worlds.longChain();
            c.due("nothing was heard", x.fits(), 31);
            c.dueRow("nothing was heard", x, 5);
            x.heard(1, 1);
            x.heard(0, 4);
            c.due("3", x.fits(), 8);
            c.dueRow("3", x, 1);
            x.makes(3, 0);
            c.due("none now", x.fits(), 0);
            c.dueRow("none now", x, 0);
            x.undo();
            c.due("3 again", x.fits(), 8);
            x.forget();
            x.heard(0, 4);
            x.heard(1, 1);
            c.due("the first counts, too", x.fits(), 8);
            MountPeers y = new MountPeers();
            for (int i = 0; i < 11; i++) {
                y.heard(1, 0);
            }
            y.heard(1, 1);
            c.due("the twelfth counts", y.fits(), 0);
            y.mounts(0, 0);
            c.due("1, that came then", y.fits(), 2);
            MountPeers z = Worlds.high();
            z.heard(2, 3);
            c.due("23", z.fits(), 1 << 23);
        });
    }

    /** Of all questions, each by itself. */
    private static void dueAsks(Check c, MountPeers x) {
        int fit = Integer.bitCount(x.fits());
        int best = -1;
        int fewest = 99;
        for (int what = 0; what < 5; what++) {
            for (int v = 0; v <= MOST_V[what]; v++) {
                int so = soOf(x, what, v);
                int left = Math.max(so, fit - so);
                if (left < fewest) {
                    fewest = left;
                    best = 10 * what + v;
                }
            }
        }
        c.due("asks()", x.asks(), best);
        c.dueRow("asks()", x, fewest);
    }

    /** How many of those that fit are so, by what other calls tell of them. */
    private static int soOf(MountPeers x, int what, int v) {
        int fit = x.fits();
        int so = 0;
        for (int m = 0; m < 24; m++) {
            if ((fit >> m & 1) != 0) {
                boolean is = what == 0 ? x.mount(m, 4) == v
                    : what == 1 ? x.mount(m, 5) >= v
                    : what == 2 ? x.mount(m, 1) == v
                    : what == 3 ? childrenOf(x, m) == v
                    : Integer.bitCount(x.spread(m)) > v;
                so += is ? 1 : 0;
            }
        }
        return so;
    }

    private static int childrenOf(MountPeers x, int m) {
        int children = 0;
        for (int d = 0; d < 4; d++) {
            children += x.at(m, d) == 24 ? 0 : 1;
        }
        return children;
    }

    private static void asks(Edges e) {
        e.edge(32, "What to ask next, so that, it is so or not, the fewest such MOUNTS are left at most:", c -> {
            dueAsks(c, Worlds.longChain());
            dueAsks(c, Worlds.line(23));
            dueAsks(c, Worlds.crowd(20));
            MountPeers x = Worlds.after("ma.k1a.ba:b.mac.mc.k3c.mca.");
            dueAsks(c, x);
            x.heard(1, 1);
            dueAsks(c, x);
            x.heard(0, 1);
            dueAsks(c, x);
            MountPeers y = Worlds.line(3);
            c.due("of 0, 1, 2, 3 in a line: two steps or more", y.asks(), 12);
            c.dueRow("of 0, 1, 2, 3 in a line", y, 2);
        });
        e.edge(32, "10 times what and v, as they may be heard, of equal ones the least: it; the ROW: how many at most.", c -> {
            MountPeers x = new MountPeers();
            c.due("of one alone all are equal", x.asks(), 0);
            c.dueRow("of one alone", x, 1);
            MountPeers y = Worlds.after("ma.");
            c.due("ROOT or 1: one step or more is the least that tells", y.asks(), 11);
            c.dueRow("ROOT or 1", y, 1);
            y.makes(1, 1);
            c.due("kind 0 tells, too, and is less", y.asks(), 0);
            c.dueRow("kind 0 tells, too", y, 1);
            MountPeers z = Worlds.after("ma.mb.k1b.ba:c.");
            z.heard(1, 1);
            z.heard(2, 0);
            c.due("1 alone fits", z.asks(), 0);
            c.dueRow("1 alone fits", z, 1);
        });
        e.edge(32, "-2: none fits.", c -> {
            MountPeers x = new MountPeers();
            x.inside(0);
            x.heard(1, 1);
            c.due("none", x.asks(), -2);
            c.dueRow("none", x, 0, 0);
            x.mounts(0, 0);
            c.due("one", x.asks(), 0);
        });
    }

    private static void saw(Edges e) {
        e.edge(33, "It was seen that to one n (0 .. 9) steps from ROOT, PARENT of k (0 .. 4), a copy came (is 1) or not (0): how many such.", c -> {
            MountPeers x = new MountPeers();
            x.inside(0);
            c.due("saw(0, 0, 0)", x.saw(0, 0, 0), 1);
            c.due("saw(9, 4, 1)", x.saw(9, 4, 1), 2);
            c.due("saw(9, 0, 0)", x.saw(9, 0, 0), 3);
            c.due("saw(0, 4, 1)", x.saw(0, 4, 1), 4);
            c.due("count(7)", x.count(7), 4);
            c.dueRow("saw() tells no row", x, 0, 0);
        });
        e.edge(33, "Refused: others, 10.", c -> {
            MountPeers x = new MountPeers();
            for (int[] bad : new int[][] {{-1, 0, 0}, {10, 0, 0}, {0, -1, 0}, {0, 5, 0}, {0, 0, -1}, {0, 0, 2},
                {Integer.MAX_VALUE, 0, 1}, {Integer.MIN_VALUE, 0, 1}, {0, Integer.MAX_VALUE, 1}, {0, Integer.MIN_VALUE, 1},
                {0, 0, Integer.MAX_VALUE}, {0, 0, Integer.MIN_VALUE}}) {
                c.due("saw(" + bad[0] + ", " + bad[1] + ", " + bad[2] + ")", x.saw(bad[0], bad[1], bad[2]), -1);
            }
            c.due("nothing was seen", x.count(7), 0);
            for (int i = 1; i <= 10; i++) {
                c.due("saw() " + i, x.saw(0, 4, 1), i);
            }
            c.due("an eleventh", x.saw(9, 4, 1), -1);
            c.due("it is not seen", x.laws(), 35);
            c.due("ten", x.count(7), 10);
        });
        e.edge(34, "It is denied: how many there were.", c -> {
            MountPeers x = new MountPeers();
            c.due("none", x.denies(), 0);
            for (int i = 1; i <= 10; i++) {
                x.saw(9, 0, 1);
            }
            c.due("laws()", x.laws(), 0);
            c.due("ten", x.denies(), 10);
            c.due("none then", x.denies(), 0);
            c.due("laws() then", x.laws(), 35);
            c.due("saw() then", x.saw(0, 0, 0), 1);
        });
    }

    private static void laws(Edges e) {
        e.edge(35, "Laws (35 of them) that fit all that was seen: how many; the ROW: the least a, b", c -> {
            MountPeers x = new MountPeers();
            c.due("nothing was seen", x.laws(), 35);
            c.dueRow("nothing was seen", x, 0, 0);
            x.saw(2, 1, 1);
            c.due("a 2 .. 6, b 0 .. 1", x.laws(), 10);
            c.dueRow("a 2 .. 6, b 0 .. 1", x, 2, 0);
            x.saw(6, 0, 0);
            c.due("but not a 6 with b 0", x.laws(), 9);
            c.dueRow("a 2, b 0 fits still", x, 2, 0);
            x.saw(2, 0, 0);
            c.due("b 1", x.laws(), 5);
            c.dueRow("b 1", x, 2, 1);
            MountPeers y = new MountPeers();
            y.saw(6, 4, 1);
            y.saw(0, 3, 0);
            c.due("the last one", y.laws(), 1);
            c.dueRow("the last one", y, 6, 4);
            MountPeers z = new MountPeers();
            for (int i = 0; i < 9; i++) {
                z.saw(0, 4, 1);
            }
            z.saw(0, 0, 0);
            c.due("the tenth counts: b is not 0", z.laws(), 28);
            c.dueRow("the tenth counts", z, 0, 1);
        });
        e.edge(35, "(nothing without).", c -> {
            MountPeers x = new MountPeers();
            x.inside(0);
            x.saw(7, 4, 1);
            c.due("no law has 7 steps", x.laws(), 0);
            c.dueRow("no law has 7 steps", x);
            x.denies();
            x.saw(0, 4, 0);
            c.due("by each law a copy comes to ROOT that is parent of 4", x.laws(), 0);
            c.dueRow("to ROOT", x);
        });
    }

    private static void looks(Edges e) {
        e.edge(36, "The n, k to look at next, so that, a copy came or not, the fewest laws are left at most:", c -> {
            MountPeers x = new MountPeers();
            c.due("of all 35: 18 by which one comes, 17 by which none does", x.looks(), 12);
            c.dueRow("of all 35", x, 18);
            x.saw(1, 2, 1);
            c.due("of a 1 .. 6, b 0 .. 2: a 4 .. 6, or not", x.looks(), 42);
            c.dueRow("of a 1 .. 6, b 0 .. 2", x, 9);
            x.saw(4, 2, 0);
            x.saw(1, 0, 0);
            c.due("of a 1 .. 3, b 1 .. 2: b 1, or not", x.looks(), 1);
            c.dueRow("of a 1 .. 3, b 1 .. 2", x, 3);
        });
        e.edge(36, "10 times n and k, of equal ones the least; the ROW: how many at most.", c -> {
            MountPeers x = new MountPeers();
            x.saw(6, 4, 1);
            x.saw(0, 3, 0);
            c.due("of one law alone all are equal", x.looks(), 0);
            c.dueRow("of one law alone", x, 1);
            MountPeers y = new MountPeers();
            y.saw(5, 4, 1);
            y.saw(0, 3, 0);
            c.due("a 5 or 6 with b 4: 6 steps tell", y.looks(), 64);
            c.dueRow("a 5 or 6 with b 4", y, 1);
        });
        e.edge(36, "-2: none fits.", c -> {
            MountPeers x = new MountPeers();
            x.inside(0);
            x.saw(9, 4, 1);
            c.due("none", x.looks(), -2);
            c.dueRow("none", x, 0, 0);
            x.denies();
            c.due("all", x.looks(), 12);
        });
    }
}

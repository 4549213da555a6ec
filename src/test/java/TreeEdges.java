/** Promises 17 to 28: who is whose, trees, what would be. */
final class TreeEdges {
    private static final int[] NOBODIES = {5, 23, 24, 25, 32, 33, -1, -31, Integer.MAX_VALUE, Integer.MIN_VALUE};

    private interface Ask {
        int of(int m);
    }

    private TreeEdges() {
    }

    static void tell(Edges e) {
        spread(e);
        peers(e);
        masters(e);
        groups(e);
        keepers(e);
        inside(e);
        path(e);
        alike(e);
        largest(e);
        would(e);
        lost(e);
        widest(e);
    }

    /** Of 0 .. 4 in x; the row stays. */
    private static void dueNobody(Check c, String call, MountPeers x, Ask ask) {
        x.inside(0);
        for (int m : NOBODIES) {
            c.due(call + " of " + m, ask.of(m), -1);
        }
        c.dueRow(call + ", refused", x, 4, 1);
    }

    private static void spread(Edges e) {
        e.edge(17, "SPREAD of a MOUNT (bits): it; the ROW: how many.", c -> {
            MountPeers x = Worlds.longChain();
            c.due("of 1", x.spread(1), 2 | 4 | 8 | 16);
            c.dueRow("of 1", x, 4);
            c.due("of 3", x.spread(3), 8 | 16);
            c.dueRow("of 3", x, 2);
            c.due("of 4, without group", x.spread(4), 16);
            c.dueRow("of 4", x, 1);
            c.due("of all 24", Worlds.crowd(23).spread(23), (1 << 24) - 1);
        });
        e.edge(17, "NONE: none such.", c -> {
            MountPeers x = Worlds.longChain();
            dueNobody(c, "spread()", x, x::spread);
        });
    }

    private static void peers(Edges e) {
        e.edge(18, "PEERS of a MOUNT (bits): they; the ROW: how many, SLAVES of it (bits).", c -> {
            MountPeers x = Worlds.longChain();
            c.due("of 1", x.peers(1), 2 | 4);
            c.dueRow("of 1", x, 2, 8);
            c.due("of 3, alone in its group", x.peers(3), 8);
            c.dueRow("of 3", x, 1, 16);
            c.due("of 4, without group", x.peers(4), 16);
            c.dueRow("of 4", x, 1, 0);
            c.due("of all 24", Worlds.crowd(23).peers(0), (1 << 24) - 1);
        });
        e.edge(18, "NONE: none such.", c -> {
            MountPeers x = Worlds.longChain();
            dueNobody(c, "peers()", x, x::peers);
        });
    }

    private static void masters(Edges e) {
        e.edge(19, "From a MOUNT to the least one that has its MASTER as GROUP, and so on,", c -> {
            MountPeers x = Worlds.longChain();
            c.due("of 4", x.masters(4), 2);
            c.dueRow("of 4: 3, then the least of 1 and 2", x, 3, 1);
            x.makes(1, 0);
            x.masters(4);
            c.dueRow("of 4, when 1 has no group", x, 3, 2);
        });
        e.edge(19, "till one has no MASTER, or nobody has it (they never go round):", c -> {
            MountPeers x = Worlds.longChain();
            c.due("of 1, that has none", x.masters(1), 0);
            Worlds.ruled(x, "i=4");
            c.due("a copy in 4 alone", x.mounts(1, 0), 5);
            c.due("its master is what the one in 3 would have", x.mount(6, 3), 4);
            c.due("nobody has it", x.masters(6), 0);
            c.due("a long one", longMasters().masters(23), 22);
        });
        e.edge(19, "how many steps; the ROW: MOUNTS to which one comes (nothing for none).", c -> {
            MountPeers x = Worlds.longChain();
            c.due("one step", x.masters(3), 1);
            c.dueRow("one step", x, 1);
            c.due("none", x.masters(0), 0);
            c.dueRow("none", x);
            MountPeers y = longMasters();
            y.masters(23);
            c.due("numbers of a long row", y.count(9), 22);
            c.due("the first of them", y.row(0), 22);
            c.due("the last of them", y.row(21), 1);
        });
        e.edge(19, "NONE: none such.", c -> {
            MountPeers x = Worlds.longChain();
            dueNobody(c, "masters()", x, x::masters);
        });
    }

    /** 23 is a slave of 22, that of 21, .. that of 1. */
    private static MountPeers longMasters() {
        MountPeers x = Worlds.after("ma.k1a.");
        Worlds.ruled(x, "0");
        for (int m = 2; m <= 23; m++) {
            x.binds(m - 1, (m - 1) / 4, (m - 1) % 4);
            x.makes(m, 2);
            x.makes(m, 1);
        }
        return x;
    }

    private static void groups(Edges e) {
        e.edge(20, "How many GROUPS there are: how many; the ROW: how many MOUNTS the largest has, its least MOUNT", c -> {
            MountPeers x = Worlds.longChain();
            c.due("two", x.groups(), 2);
            c.dueRow("two: that of 1 and 2", x, 2, 1);
            x.binds(3, 4, 0);
            x.binds(3, 4, 1);
            c.due("two still", x.groups(), 2);
            c.dueRow("that of 3, 5 and 6 is the largest", x, 3, 3);
            c.due("23 of them", longMasters().groups(), 23);
            MountPeers y = Worlds.crowd(23);
            c.due("one", y.groups(), 1);
            c.dueRow("one of 24", y, 24, 0);
            MountPeers z = Worlds.after("ma.k1a.ba:b.k2b.k0a.");
            c.due("a master that nobody has any more is none", z.groups(), 0);
            MountPeers h = Worlds.high();
            h.makes(1, 0);
            c.due("that of 23", h.groups(), 1);
            c.dueRow("that of 23", h, 1, 23);
        });
        e.edge(20, "(of as large ones that of the least MOUNT;", c -> {
            MountPeers x = Worlds.after("ma.mb.k1b.k1a.");
            c.due("two of one each", x.groups(), 2);
            c.dueRow("that of 1, though its number is the later one", x, 1, 1);
            c.due("ROOT has the latest number", x.makes(0, 1), 1);
            c.due("three of one each", x.groups(), 3);
            c.dueRow("that of ROOT", x, 1, 0);
        });
        e.edge(20, "nothing without).", c -> {
            MountPeers x = Worlds.after("ma.");
            c.due("none", x.groups(), 0);
            c.dueRow("none", x);
        });
    }

    private static void keepers(Edges e) {
        e.edge(21, "MOUNTS each of which alone, were it made of KIND 0, would keep one MOUNT out of SPREAD of another one"
            + " (neither of the two; bits): they; the ROW: how many.", c -> {
                MountPeers x = Worlds.longChain();
                x.inside(0);
                c.due("4 of spread of 1: were 3 made of kind 0, 4 had its master, group 1", x.keepers(1, 4), 0);
                c.dueRow("none", x, 0);
                c.due("3 of spread of 2: 1 has group 1, but 2 has it, too", x.keepers(2, 3), 0);
                c.due("2 of spread of 1", x.keepers(1, 2), 0);
                MountPeers y = longMasters();
                c.due("23 of spread of 1, through 21 others", y.keepers(1, 23), 0);
                c.dueRow("23 of spread of 1", y, 0);
            });
        e.edge(21, "-2: it is not in it now, or they are one;", c -> {
            MountPeers x = Worlds.longChain();
            x.inside(0);
            c.due("1 of spread of 4: not back", x.keepers(4, 1), -2);
            c.due("1 of spread of 3: not back", x.keepers(3, 1), -2);
            c.due("ROOT of spread of 1", x.keepers(1, 0), -2);
            c.due("1 of spread of ROOT", x.keepers(0, 1), -2);
            for (int m = 0; m <= 4; m++) {
                c.due("one: " + m, x.keepers(m, m), -2);
            }
            c.dueRow("-2", x, 4, 1);
        });
        e.edge(21, "NONE: none such.", c -> {
            MountPeers x = Worlds.longChain();
            dueNobody(c, "keepers(m, 1)", x, m -> x.keepers(m, 1));
            dueNobody(c, "keepers(1, m)", x, m -> x.keepers(1, m));
            dueNobody(c, "keepers(m, m)", x, m -> x.keepers(m, m));
        });
    }

    private static void inside(Edges e) {
        e.edge(22, "MOUNTS that are IN a MOUNT (bits): they; the ROW: how many, how many steps it is to the farthest of them", c -> {
            MountPeers x = Worlds.after("ma.maa.maab.mad.mb.");
            c.due("in ROOT", x.inside(0), 62);
            c.dueRow("in ROOT", x, 5, 3);
            c.due("in 1", x.inside(1), 4 | 8 | 16);
            c.dueRow("in 1", x, 3, 2);
            MountPeers y = Worlds.line(23);
            c.due("in ROOT of a full one", y.inside(0), 0xFFFFFE);
            c.dueRow("in ROOT of a full one", y, 23, 23);
            c.due("in 2, where others are farther from ROOT", Worlds.after("ma.mb.mba.maa.maaa.maaaa.").inside(2), 8);
            MountPeers z = Worlds.after("ma.mb.mba.maa.maaa.maaaa.");
            z.inside(2);
            c.dueRow("in 2", z, 1, 1);
            MountPeers h = Worlds.high();
            h.mounts(23, 0);
            c.due("in 23", h.inside(23), 4);
            c.dueRow("in 23", h, 1, 1);
        });
        e.edge(22, "(0 without).", c -> {
            MountPeers x = Worlds.after("ma.maa.");
            c.due("in 2", x.inside(2), 0);
            c.dueRow("in 2", x, 0, 0);
            MountPeers y = Worlds.after("ma.mb.maa.");
            c.due("in 2, where others are farther from ROOT", y.inside(2), 0);
            c.dueRow("in 2, where others are farther from ROOT", y, 0, 0);
            c.due("in ROOT alone", new MountPeers().inside(0), 0);
        });
        e.edge(22, "NONE: none such.", c -> {
            MountPeers x = Worlds.longChain();
            dueNobody(c, "inside()", x, x::inside);
        });
    }

    private static void path(Edges e) {
        e.edge(23, "DIRS by which one comes from ROOT to a MOUNT: how many; the ROW: they", c -> {
            MountPeers x = Worlds.after("mb.mbd.mbdc.");
            c.due("to 3", x.path(3), 3);
            c.dueRow("to 3", x, 1, 3, 2);
            c.due("to 1", x.path(1), 1);
            c.dueRow("to 1", x, 1);
            MountPeers z = Worlds.after("mb.mbd.mbdc.mbdca.mbdcab.");
            c.due("to 5", z.path(5), 5);
            c.dueRow("to 5", z, 1, 3, 2, 0, 1);
            c.due("to 4", z.path(4), 4);
            c.dueRow("to 4", z, 1, 3, 2, 0);
            MountPeers y = Worlds.line(22);
            y.mounts(22, 3);
            c.due("to 23, the farthest", y.path(23), 23);
            c.due("numbers", y.count(9), 23);
            c.due("the first but one of these", y.row(21), 0);
            c.due("the last of these", y.row(22), 3);
        });
        e.edge(23, "(nothing for ROOT).", c -> {
            MountPeers x = Worlds.after("ma.");
            c.due("to ROOT", x.path(0), 0);
            c.dueRow("to ROOT", x);
        });
        e.edge(23, "NONE: none such.", c -> {
            MountPeers x = Worlds.longChain();
            dueNobody(c, "path()", x, x::path);
        });
    }

    private static void dueAlike(Check c, String acts, int one, int other, long... row) {
        MountPeers x = Worlds.after(acts);
        x.inside(0);
        int due = row.length == 0 ? 1 : 0;
        c.due("alike(" + one + ", " + other + ") behind " + acts, x.alike(one, other), due);
        c.dueRow("alike(" + one + ", " + other + ") behind " + acts, x, row);
        c.due("alike(" + other + ", " + one + ") behind " + acts, x.alike(other, one), due);
        c.dueRow("alike(" + other + ", " + one + ") behind " + acts, x, row);
    }

    private static void alike(Edges e) {
        e.edge(24, "Whether two MOUNTS show the same: at each DIR both have something that shows the same, or neither has: 1, else 0;", c -> {
            dueAlike(c, "ma.mb.", 1, 2);
            dueAlike(c, "ma.mb.maa.mba.mad.mbd.madc.mbdc.", 1, 2);
            dueAlike(c, "ma.mb.k1a.k3b.", 1, 2);
            dueAlike(c, "ma.maa.", 0, 1, 0, 0);
            dueAlike(c, "ma.maa.", 2, 2);
            dueAlike(c, "ma.", 0, 0);
            dueAlike(c, "ma.mb.mad.", 1, 2, 3);
            MountPeers x = Worlds.line(23);
            c.due("all 24 but one", x.alike(0, 1), 0);
            c.due("so many dirs", x.count(9), 23);
            c.due("all of ROOT", x.alike(0, 0), 1);
        });
        e.edge(24, "the ROW: if not, the least row of DIRS by which one comes to a PLACE where just one of them has something", c -> {
            dueAlike(c, "ma.mb.mab.mbc.", 1, 2, 1);
            dueAlike(c, "ma.mb.maa.mba.mbad.mbb.", 1, 2, 0, 3);
            dueAlike(c, "ma.mb.mab.mbb.mbba.mabd.mad.", 1, 2, 1, 0);
            dueAlike(c, "ma.mb.mac.mbc.mbd.maca.mbca.mbcab.", 1, 2, 2, 0, 1);
            dueAlike(c, "ma.mab.maba.mb.", 1, 4, 1);
            dueAlike(c, "ma.mb.", 0, 1, 0);
        });
        e.edge(24, "(nothing else).", c -> {
            MountPeers x = Worlds.after("ma.mb.");
            x.inside(0);
            c.due("alike(1, 2)", x.alike(1, 2), 1);
            c.dueRow("alike(1, 2)", x);
        });
        e.edge(24, "NONE: none such.", c -> {
            MountPeers x = Worlds.longChain();
            dueNobody(c, "alike(m, 0)", x, m -> x.alike(m, 0));
            dueNobody(c, "alike(0, m)", x, m -> x.alike(0, m));
            dueNobody(c, "alike(m, m)", x, m -> x.alike(m, m));
        });
    }

    private static void largest(Edges e) {
        e.edge(25, "The MOUNT whose tree (itself, and all that is IN it) has the most MOUNTS but ROOT's", c -> {
            MountPeers x = Worlds.after("ma.mb.mba.mbaa.mbb.mc.mca.");
            c.due("2, with 3, 4, 5", x.largest(), 2);
            c.dueRow("2, with 3, 4, 5", x, 4);
            MountPeers y = Worlds.line(23);
            c.due("a full one", y.largest(), 1);
            c.dueRow("a full one", y, 23);
            MountPeers z = Worlds.high();
            z.makes(1, 0);
            z.mounts(23, 0);
            c.due("23, with one in it", z.largest(), 23);
            c.dueRow("23, with one in it", z, 2);
        });
        e.edge(25, "(of as many the least): it; the ROW: how many.", c -> {
            MountPeers x = Worlds.after("ma.mb.mba.maa.");
            c.due("1 and 2 have two each", x.largest(), 1);
            c.dueRow("1 and 2 have two each", x, 2);
            MountPeers y = Worlds.after("ma.mb.ua.mba.mbb.");
            c.due("2, as 1 is in it", y.largest(), 2);
            c.dueRow("2, as 1 is in it", y, 3);
        });
        e.edge(25, "-2: ROOT is alone.", c -> {
            MountPeers x = new MountPeers();
            x.inside(0);
            c.due("ROOT is alone", x.largest(), -2);
            c.dueRow("ROOT is alone", x, 0, 0);
            x.mounts(0, 3);
            c.due("one is in it", x.largest(), 1);
            c.dueRow("one is in it", x, 1);
        });
    }

    /** ROOT and eleven others are peers, and d of each is free: twelve can come. */
    private static MountPeers twelve() {
        MountPeers x = new MountPeers();
        x.makes(0, 1);
        Worlds.ruled(x, "0");
        for (int i = 0; i < 11; i++) {
            x.binds(0, i / 3, i % 3);
        }
        return Worlds.ruled(x, "1");
    }

    private static void would(Edges e) {
        e.edge(26, "How many MOUNTS mounts() would bring: how many; the ROW: their PARENTS, that of (1) first, then by number", c -> {
            MountPeers x = Worlds.longChain();
            String state = Check.stateOf(x);
            c.due("in 2", x.would(2, 0), 4);
            c.dueRow("in 2", x, 2, 1, 3, 4);
            c.due("in 3", x.would(3, 0), 2);
            c.dueRow("in 3", x, 3, 4);
            c.due("in 4", x.would(4, 0), 1);
            c.dueRow("in 4", x, 4);
            c.dueState("would()", x, state);
            x.mounts(3, 0);
            c.due("in 2, where 3 and 4 have something", x.would(2, 0), 2);
            Worlds.ruled(x, "i=4");
            c.due("by a rule", x.would(2, 1), 2);
            c.dueRow("by a rule", x, 2, 4);
            MountPeers y = Worlds.high();
            c.due("in 1 and in 23", y.would(1, 0), 2);
            c.dueRow("in 1 and in 23", y, 1, 23);
            c.due("in 23 and in 1", y.would(23, 0), 2);
            c.dueRow("in 23 and in 1", y, 23, 1);
        });
        e.edge(26, "(the first 14 alone).", c -> {
            MountPeers x = twelve();
            c.due("the most that can come: 12 in 12", x.would(5, 3), 12);
            c.dueRow("12 in 12", x, 5, 0, 1, 2, 3, 4, 6, 7, 8, 9, 10, 11);
            c.due("they come", x.mounts(5, 3), 12);
            c.dueRow("they come", x, 12, 0xFFF000);
        });
        e.edge(26, "-2, NONE, -9: as mounts().", c -> {
            MountPeers x = twelve();
            x.mounts(5, 3);
            x.inside(5);
            c.due("something is there", x.would(5, 3), -2);
            c.due("of a full one", x.would(5, 1), -9);
            c.due("none such", x.would(24, 0), -1);
            c.due("none such below 0", x.would(-1, 0), -1);
            c.due("no such dir", x.would(5, 4), -1);
            c.due("no such dir below 0", x.would(5, -1), -1);
            c.dueRow("refused ones", x, 1, 1);
            x.unmounts(11, 3);
            c.due("of one that has room for twelve again", x.would(5, 3), 12);
            c.due("thirteen are too many", crowded().would(0, 3), -9);
        });
    }

    /** twelve(), and one more peer. */
    private static MountPeers crowded() {
        MountPeers x = Worlds.ruled(twelve(), "0");
        x.binds(0, 5, 0);
        return Worlds.ruled(x, "1");
    }

    private static void lost(Edges e) {
        e.edge(27, "MOUNTS that would go by unmounts() (bits): they; the ROW: how many.", c -> {
            MountPeers x = Worlds.longChain();
            x.mounts(1, 0);
            String state = Check.stateOf(x);
            c.due("in 2", x.lost(2, 0), 32 | 64 | 128 | 256);
            c.dueRow("in 2", x, 4);
            c.due("in 3: not back", x.lost(3, 0), 128 | 256);
            c.dueRow("in 3", x, 2);
            c.dueState("lost()", x, state);
            Worlds.ruled(x, "i=4");
            c.due("by a rule", x.lost(2, 0), 64 | 256);
            x.mounts(8, 0);
            c.due("that in 4 is parent of one", x.lost(2, 0), 64);
            c.dueRow("that in 4 is parent of one", x, 1);
        });
        e.edge(27, "-2, -3, NONE: as unmounts().", c -> {
            MountPeers x = Worlds.longChain();
            x.mounts(4, 0);
            x.inside(0);
            c.due("nothing is there", x.lost(1, 0), -2);
            c.due("something has it as parent", x.lost(0, 3), -3);
            for (int m : new int[] {6, 24, 32, -1, Integer.MAX_VALUE, Integer.MIN_VALUE}) {
                c.due("lost(" + m + ", 0)", x.lost(m, 0), -1);
                c.due("lost(0, " + m + ")", x.lost(0, m), -1);
            }
            c.due("no such dir", x.lost(0, 4), -1);
            c.dueRow("refused ones", x, 5, 2);
        });
    }

    /** 1, 2, 3: peers in ROOT, of which 3 has 5 at a; 4 at d of ROOT, and a line in it, so that so many are there. */
    private static MountPeers crammed(int there) {
        MountPeers x = Worlds.ruled(Worlds.after("ma.k1a.ba:b.ba:c.md."), "0");
        x.mounts(3, 0);
        Worlds.ruled(x, "");
        for (int m = 4; Integer.bitCount(x.count(0)) < there;) {
            m = x.mounts(m, 0);
        }
        return x;
    }

    private static void dueWidest(Check c, MountPeers x, int place, int row) {
        c.due("widest()", x.widest(), place);
        c.dueRow("widest()", x, row);
    }

    /** 10, 11, 12 are peers; of each dir one of them has something, 10 of a, 12 of b and d, 11 of c. */
    private static MountPeers lateTriplets() {
        MountPeers x = Worlds.line(9);
        x.mounts(0, 1);
        x.makes(10, 1);
        x.binds(10, 0, 2);
        x.binds(10, 0, 3);
        Worlds.ruled(x, "0");
        x.mounts(10, 0);
        x.mounts(12, 1);
        x.mounts(11, 2);
        x.mounts(12, 3);
        return Worlds.ruled(x, "");
    }

    private static void widest(Edges e) {
        e.edge(28, "The PLACE at which mounts() would bring the most MOUNTS", c -> {
            dueWidest(c, Worlds.after("ma.mb.mc.k1b.bb:d."), 20, 2);
            dueWidest(c, Worlds.longChain(), 10, 4);
            MountPeers x = Worlds.longChain();
            x.mounts(4, 0);
            dueWidest(c, x, 11, 4);
            dueWidest(c, twelve(), 3, 12);
            MountPeers y = Worlds.high();
            y.makes(1, 2);
            dueWidest(c, y, 230, 2);
            dueWidest(c, Worlds.ruled(Worlds.peers(), "0"), 2, 1);
            dueWidest(c, Worlds.ruled(Worlds.peers(), "i=1"), 20, 2);
        });
        e.edge(28, "(of as many the least MOUNT, then DIR;", c -> {
            dueWidest(c, new MountPeers(), 0, 1);
            dueWidest(c, Worlds.after("ma."), 1, 1);
            dueWidest(c, Worlds.after("ma.mb.mc.md."), 10, 1);
            dueWidest(c, Worlds.after("ma.mb.mc.k1b.bb:d.mba."), 21, 2);
            dueWidest(c, lateTriplets(), 101, 2);
        });
        e.edge(28, "such as would be refused aside): 10 times the MOUNT and the DIR: it; the ROW: how many.", c -> {
            dueWidest(c, crammed(21), 11, 3);
            dueWidest(c, crammed(22), 10, 2);
            dueWidest(c, crammed(23), 41, 1);
            dueWidest(c, crowded(), 32, 10);
        });
        e.edge(28, "-2: there is none.", c -> {
            MountPeers x = Worlds.line(23);
            x.inside(0);
            c.due("a full one", x.widest(), -2);
            c.dueRow("a full one", x, 23, 23);
            x.unmounts(22, 0);
            dueWidest(c, x, 1, 1);
        });
    }
}

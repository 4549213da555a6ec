/** Promises 9 to 14: mounts, binds, trees, kinds, unmounts, moves. */
final class ActEdges {
    private ActEdges() {
    }

    static void tell(Edges e) {
        mounts(e);
        binds(e);
        trees(e);
        treesRefused(e);
        makes(e);
        makesRefused(e);
        unmounts(e);
        unmountsRefused(e);
        moves(e);
    }

    private static final int[][] NO_PLACES = {{5, 0}, {23, 0}, {24, 0}, {32, 0}, {-1, 0}, {Integer.MAX_VALUE, 0},
        {Integer.MIN_VALUE, 0}, {0, 4}, {0, -1}, {1, 32}, {0, Integer.MAX_VALUE}, {0, Integer.MIN_VALUE}};

    private static final int[] NOBODIES = {5, 23, 24, 25, 32, 33, -1, -31, Integer.MAX_VALUE, Integer.MIN_VALUE};

    /** Parent, dir, group, master, kind, steps of a mount, as many as are told. */
    private static void dueMount(Check c, MountPeers x, int m, int... due) {
        for (int what = 0; what < due.length; what++) {
            c.due("mount(" + m + ", " + what + ")", x.mount(m, what), due[what]);
        }
    }

    private static void mounts(Edges e) {
        e.edge(9, "A CLONE of none comes at a DIR of a MOUNT: the number of that of (1); the ROW: how many MOUNTS came, their set (bits).", c -> {
            MountPeers x = Worlds.chain();
            c.due("in 2", x.mounts(2, 0), 4);
            c.dueRow("in 2: then in 1 and 3", x, 3, 16 | 32 | 64);
            dueMount(c, x, 4, 2, 0, 3, 0, 1, 2);
            dueMount(c, x, 5, 1, 0, 3, 0, 1, 2);
            dueMount(c, x, 6, 3, 0, 4, 3, 4, 2);
            c.due("in ROOT, that has no group", x.mounts(0, 3), 7);
            c.dueRow("in ROOT", x, 1, 128);
            dueMount(c, x, 7, 0, 3, 0, 0, 0, 1);
            c.due("acts", x.count(4), 8);
            c.due("can be undone", x.count(8), 3);
            MountPeers y = Worlds.line(22);
            c.due("the last number", y.mounts(0, 3), 23);
            c.dueRow("the last number", y, 1, 1 << 23);
            MountPeers z = Worlds.high();
            c.due("in 1", z.mounts(1, 0), 2);
            c.dueRow("in 1, and in 23", z, 2, 4 | 8);
            c.due("that in 23", z.at(23, 0), 3);
        });
        e.edge(9, "-2: something is there;", c -> {
            MountPeers x = Worlds.chain();
            String state = Check.stateOf(x);
            c.due("at a of ROOT", x.mounts(0, 0), -2);
            c.dueState("a refused one", x, state);
            x.mounts(3, 1);
            c.due("in a peer, where just a slave has something", x.mounts(1, 1), 5);
            c.dueRow("a slave has something", x, 2, 32 | 64);
        });
        e.edge(9, "NONE: none such;", c -> {
            MountPeers x = Worlds.after("ma.mb.mc.md.");
            String state = Check.stateOf(x);
            for (int[] bad : NO_PLACES) {
                c.due("mounts(" + bad[0] + ", " + bad[1] + ")", x.mounts(bad[0], bad[1]), -1);
            }
            x.unmounts(0, 1);
            c.due("in one that went", x.mounts(2, 0), -1);
            x.undo();
            c.dueState("refused ones", x, state);
        });
        e.edge(9, "-9.", c -> {
            MountPeers x = Worlds.line(23);
            String state = Check.stateOf(x);
            c.due("the 25th", x.mounts(23, 3), -9);
            c.dueState("-9", x, state);
            MountPeers y = Worlds.peers();
            for (int m = 0; y.count(0) != (1 << 22) - 1; m = y.mounts(m, 2)) {
                c.due("22 are not there yet", y.count(0) < 1 << 22, true);
            }
            c.due("two for two", y.mounts(1, 3), 22);
            c.due("the next group", y.count(5), 3);
            y.undo();
            y.mounts(0, 3);
            String before = Check.stateOf(y);
            c.due("one for two", y.mounts(1, 3), -9);
            c.dueState("-9, also the next group", y, before);
        });
    }

    private static void binds(Edges e) {
        e.edge(10, "A CLONE of a MOUNT from comes at a DIR of a MOUNT: its number; the ROW: as mounts().", c -> {
            MountPeers x = Worlds.chain();
            c.due("of 3 in 1", x.binds(3, 1, 0), 4);
            c.dueRow("of 3 in 1, 2, 3", x, 3, 16 | 32 | 64);
            dueMount(c, x, 4, 1, 0, 2, 1, 4, 2);
            dueMount(c, x, 5, 2, 0, 2, 1, 4, 2);
            dueMount(c, x, 6, 3, 0, 3, 2, 4, 2);
            MountPeers y = new MountPeers();
            c.due("ROOT in itself", y.binds(0, 0, 0), 1);
            dueMount(c, y, 1, 0, 0, 0, 0, 0, 1);
            c.due("what is in it is not bound with it", y.binds(0, 0, 1), 2);
            c.due("nothing in 2", y.inside(2), 0);
        });
        e.edge(10, "-2: something is there;", c -> {
            MountPeers x = Worlds.chain();
            x.makes(0, 3);
            String state = Check.stateOf(x);
            c.due("something is there", x.binds(1, 0, 0), -2);
            c.due("ahead of -3", x.binds(0, 0, 0), -2);
            c.dueState("a refused one", x, state);
        });
        e.edge(10, "-3: from is UNBINDABLE;", c -> {
            MountPeers x = Worlds.chain();
            x.makes(0, 3);
            String state = Check.stateOf(x);
            c.due("ROOT is", x.binds(0, 1, 0), -3);
            c.dueState("a refused one", x, state);
            c.due("in one that is, of one that is not", x.binds(1, 0, 3), 4);
            MountPeers y = Worlds.high();
            y.makes(23, 3);
            c.due("23 is", y.binds(23, 0, 1), -3);
            c.due("23 is: trees()", y.trees(23, 0, 1), -3);
            x.makes(0, 0);
            c.due("no more", x.binds(0, 1, 0), 5);
        });
        e.edge(10, "NONE: none such;", c -> {
            MountPeers x = Worlds.after("ma.mb.mc.md.");
            String state = Check.stateOf(x);
            for (int bad : NOBODIES) {
                c.due("binds(" + bad + ", 1, 0)", x.binds(bad, 1, 0), -1);
            }
            for (int[] bad : NO_PLACES) {
                c.due("binds(1, " + bad[0] + ", " + bad[1] + ")", x.binds(1, bad[0], bad[1]), -1);
            }
            c.dueState("refused ones", x, state);
        });
        e.edge(10, "-9.", c -> {
            MountPeers x = Worlds.line(23);
            String state = Check.stateOf(x);
            c.due("the 25th", x.binds(1, 23, 3), -9);
            c.dueState("-9", x, state);
            MountPeers y = Worlds.line(22);
            c.due("the 24th", y.binds(1, 22, 3), 23);
        });
    }

    /** 1 (group 1) at a of ROOT; in it 2 at b (in that 3 at a, group 2, and 4 at d), 5 at c, 6 at d; 7 at b of ROOT. */
    private static MountPeers grove() {
        return Worlds.after("ma.mab.maba.mabd.mac.mad.mb.k1a.k1aba.");
    }

    private static void trees(Edges e) {
        e.edge(11, "A tree is bound: a CLONE of a MOUNT from comes at a DIR of a MOUNT that has no GROUP;", c -> {
            MountPeers x = Worlds.chain();
            c.due("of 3 in ROOT", x.trees(3, 0, 3), 4);
            dueMount(c, x, 4, 0, 3, 2, 1, 4, 1);
            MountPeers y = Worlds.after("ma.k1a.ba:b.k2b.mc.");
            c.due("of 3 in a slave without group", y.trees(3, 2, 0), 4);
            dueMount(c, y, 4, 2, 0, 0, 0, 0, 2);
            c.due("nothing in 1", y.at(1, 0), 24);
            c.due("ROOT in itself", new MountPeers().trees(0, 0, 0), 1);
        });
        e.edge(11, "then, by DIR, of each MOUNT that had from as PARENT", c -> {
            MountPeers x = Worlds.after("md.mdd.mdc.mdb.mda.");
            c.due("of 1", x.trees(1, 0, 0), 6);
            for (int d = 0; d < 4; d++) {
                c.due("at " + d, x.at(6, d), 7 + d);
            }
            MountPeers y = Worlds.high();
            c.due("1 and 23 in ROOT", y.trees(0, 0, 1), 2);
            c.dueRow("1 and 23 in ROOT", y, 3, 4 | 8 | 16);
            c.due("that of 23", y.at(2, 3), 4);
            MountPeers z = Worlds.high();
            z.makes(23, 0);
            z.mounts(23, 3);
            c.due("what is in 23", z.trees(23, 0, 1), 3);
            c.dueRow("what is in 23", z, 2, 8 | 16);
        });
        e.edge(11, "(as all was ahead of this)", c -> {
            MountPeers x = Worlds.after("ma.mab.");
            c.due("of 1 in itself", x.trees(1, 1, 0), 3);
            c.dueRow("of 1 in itself", x, 2, 8 | 16);
            c.due("not the clone in itself", x.at(3, 0), 24);
            c.due("but the one at b", x.at(3, 1), 4);
            c.due("of ROOT in the last one", x.trees(0, 4, 0), 5);
            c.dueRow("of ROOT in the last one: five", x, 5, 0x3E0);
        });
        e.edge(11, "and is not UNBINDABLE:", c -> {
            MountPeers x = grove();
            x.makes(2, 3);
            c.due("of 1", x.trees(1, 0, 2), 8);
            c.dueRow("2 is not, nor 3 and 4 in it", x, 3, 256 | 512 | 1024);
            c.due("at b", x.at(8, 1), 24);
            c.due("at c", x.at(8, 2), 9);
            c.due("at d", x.at(8, 3), 10);
        });
        e.edge(11, "a CLONE at the same DIR of the CLONE of from (the least number that is not there;", c -> {
            MountPeers x = Worlds.after("ma.mb.mc.mab.mad.ub.");
            c.due("2 is not there", x.trees(1, 0, 3), 2);
            c.due("at b", x.at(2, 1), 6);
            c.due("at d", x.at(2, 3), 7);
            c.due("at a", x.at(2, 0), 24);
        });
        e.edge(11, "GROUP and MASTER as its own;", c -> {
            MountPeers x = Worlds.chain();
            x.trees(0, 0, 3);
            dueMount(c, x, 4, 0, 3, 0, 0, 0);
            dueMount(c, x, 5, 4, 0, 1, 0, 1);
            dueMount(c, x, 6, 4, 1, 1, 0, 1);
            dueMount(c, x, 7, 4, 2, 2, 1, 4);
            c.due("no new number", x.count(5), 3);
        });
        e.edge(11, "nothing spreads by this),", c -> {
            MountPeers x = grove();
            c.due("of 1, that has a group, as its clone", x.trees(1, 0, 2), 8);
            c.dueRow("six", x, 6, 0x3F00);
            c.due("2 has no group, nor has its clone in the clone", x.mount(9, 2), 0);
            c.due("the clone of 3 has that of 3", x.mount(10, 2), 2);
            c.due("in 1 is what was in it", x.inside(1), 4 | 8 | 16 | 32 | 64);
        });
        e.edge(11, "and likewise all of its own, ahead of the next one:", c -> {
            MountPeers x = grove();
            x.trees(1, 0, 2);
            dueMount(c, x, 9, 8, 1);
            dueMount(c, x, 10, 9, 0);
            dueMount(c, x, 11, 9, 3);
            dueMount(c, x, 12, 8, 2);
            dueMount(c, x, 13, 8, 3);
        });
        e.edge(11, "the number of the first one; the ROW: as mounts().", c -> {
            MountPeers x = Worlds.line(3);
            c.due("of 1 in ROOT", x.trees(1, 0, 1), 4);
            c.dueRow("of 1 in ROOT", x, 3, 16 | 32 | 64);
            c.due("acts", x.count(4), 4);
            c.due("one undo", x.undo(), 3);
            c.due("count(0)", x.count(0), 15);
        });
    }

    private static void treesRefused(Edges e) {
        e.edge(11, "-2, -3, NONE: as binds();", c -> {
            MountPeers x = grove();
            x.makes(5, 3);
            String state = Check.stateOf(x);
            c.due("something is there", x.trees(2, 0, 0), -2);
            c.due("something, of one that is unbindable", x.trees(5, 0, 0), -2);
            c.due("something, in one with a group", x.trees(2, 1, 1), -2);
            c.due("unbindable", x.trees(5, 7, 0), -3);
            c.due("unbindable, in one with a group", x.trees(5, 1, 0), -3);
            for (int bad : new int[] {8, 23, 24, 32, -1, Integer.MAX_VALUE, Integer.MIN_VALUE}) {
                c.due("trees(" + bad + ", 0, 2)", x.trees(bad, 0, 2), -1);
                c.due("trees(2, " + bad + ", 2)", x.trees(2, bad, 2), -1);
            }
            c.due("no such dir", x.trees(2, 0, 4), -1);
            c.due("no such dir below 0", x.trees(2, 1, -1), -1);
            c.dueState("refused ones", x, state);
        });
        e.edge(11, "-4: the MOUNT has a GROUP;", c -> {
            MountPeers x = Worlds.chain();
            String state = Check.stateOf(x);
            c.due("a group", x.trees(2, 1, 0), -4);
            c.due("a group and a master", x.trees(0, 3, 0), -4);
            c.dueState("refused ones", x, state);
            x.makes(3, 2);
            c.due("a master alone", x.trees(2, 3, 0), 4);
        });
        e.edge(11, "-9.", c -> {
            MountPeers x = Worlds.line(12);
            c.due("13 and 11", x.trees(2, 0, 1), 13);
            c.dueRow("13 and 11", x, 11, 0xFFE000);
            x.undo();
            String state = Check.stateOf(x);
            c.due("13 and 12", x.trees(1, 0, 1), -9);
            c.dueState("-9", x, state);
            x.makes(12, 3);
            c.due("the last one is unbindable: 13 and 11", x.trees(1, 0, 1), 13);
        });
    }

    private static void dueMakes(Check c, MountPeers x, int m, int... answers) {
        for (int v = 0; v <= 3; v++) {
            c.due("makes(" + m + ", " + v + ")", x.makes(m, v), answers[v]);
            if (answers[v] >= 0) {
                x.undo();
            }
        }
    }

    private static void makes(Edges e) {
        e.edge(12, "A MOUNT is made of a KIND v (0 .. 3):", c -> {
            dueMakes(c, Worlds.after("ma."), 1, 0, 1, -2, 3);
            dueMakes(c, Worlds.after("ma.k1a."), 1, 10, 11, 10, 13);
            dueMakes(c, Worlds.after("ma.k1a.ba:b."), 1, 10, 11, 12, 13);
            dueMakes(c, Worlds.after("ma.k1a.ba:b.k2b."), 2, 20, 24, -2, 23);
            dueMakes(c, Worlds.after("ma.k3a."), 1, 30, 31, -2, 33);
            dueMakes(c, Worlds.chain(), 3, 40, 44, 42, 43);
            dueMakes(c, Worlds.after("ma.k1a.ba:b.k2b.k1b.bb:c."), 3, 40, 44, 42, 43);
            dueMakes(c, new MountPeers(), 0, 0, 1, -2, 3);
        });
        e.edge(12, "0: it LEAVES its GROUP (if it has one), has no MASTER, is not UNBINDABLE;", c -> {
            MountPeers x = Worlds.longChain();
            x.makes(3, 0);
            dueMount(c, x, 3, 0, 2, 0, 0, 0);
            c.due("nobody has its group: its slave has its master", x.mount(4, 3), 1);
            x.makes(4, 0);
            dueMount(c, x, 4, 0, 3, 0, 0, 0);
            c.due("it had no group to leave: those without master have none still", x.count(2), 0);
            x.makes(4, 3);
            x.makes(4, 0);
            c.due("unbindable ones", x.count(3), 0);
            c.due("acts, one each", x.count(4), 12);
        });
        e.edge(12, "1: not UNBINDABLE; if it has no GROUP, it has a new one;", c -> {
            MountPeers x = Worlds.longChain();
            x.makes(4, 1);
            dueMount(c, x, 4, 0, 3, 3, 2, 4);
            x.makes(4, 1);
            dueMount(c, x, 4, 0, 3, 3, 2, 4);
            c.due("the next number", x.count(5), 4);
            x.makes(0, 3);
            x.makes(0, 1);
            dueMount(c, x, 0, 24, 4, 4, 0, 1);
            c.due("unbindable ones", x.count(3), 0);
            x.makes(0, 0);
            c.due("and it is none when it has no group again", x.mount(0, 4), 0);
        });
        e.edge(12, "2: if others have its GROUP, that is its MASTER; it LEAVES its GROUP;", c -> {
            MountPeers x = Worlds.longChain();
            x.makes(2, 2);
            dueMount(c, x, 2, 0, 1, 0, 1, 2);
            x.makes(1, 2);
            dueMount(c, x, 1, 0, 0, 0, 0, 0);
            c.due("no other has group 1: its slave 2 has its master, none", x.mount(2, 3), 0);
            c.due("and 3", x.mount(3, 3), 0);
            MountPeers y = Worlds.longChain();
            y.makes(3, 2);
            dueMount(c, y, 3, 0, 2, 0, 1, 2);
            c.due("its slave has its master", y.mount(4, 3), 1);
            MountPeers z = Worlds.after("ma.k1a.ba:b.k2b.k1b.bb:c.");
            z.makes(3, 2);
            dueMount(c, z, 3, 0, 2, 0, 2, 2);
            c.due("the other one keeps group and master", z.mount(2, 4), 4);
        });
        e.edge(12, "3: as 0, but it is UNBINDABLE:", c -> {
            MountPeers x = Worlds.longChain();
            x.makes(3, 3);
            dueMount(c, x, 3, 0, 2, 0, 0, 3);
            c.due("its slave has its master", x.mount(4, 3), 1);
            x.makes(4, 3);
            dueMount(c, x, 4, 0, 3, 0, 0, 3);
            c.due("unbindable ones", x.count(3), 8 | 16);
        });
    }

    private static void makesRefused(Edges e) {
        e.edge(12, "10 times its KIND before and that of now.", c -> {
            MountPeers x = Worlds.chain();
            x.spread(1);
            c.due("of both to neither", x.makes(3, 0), 40);
            c.due("of neither to neither", x.makes(3, 0), 0);
            c.due("of unbindable to unbindable", x.makes(3, 3) * 100 + x.makes(3, 3), 333);
            c.dueRow("it tells no row", x, 3);
        });
        e.edge(12, "-2: 2, and it has no GROUP;", c -> {
            MountPeers x = Worlds.longChain();
            String state = Check.stateOf(x);
            c.due("neither", x.makes(0, 2), -2);
            c.due("a master alone", x.makes(4, 2), -2);
            c.dueState("refused ones", x, state);
            x.makes(0, 3);
            c.due("unbindable", x.makes(0, 2), -2);
            c.due("it is so still", x.mount(0, 4), 3);
        });
        e.edge(12, "NONE: others.", c -> {
            MountPeers x = Worlds.after("ma.mb.mc.md.");
            String state = Check.stateOf(x);
            for (int v : new int[] {-1, 4, 5, Integer.MAX_VALUE, Integer.MIN_VALUE}) {
                c.due("makes(1, " + v + ")", x.makes(1, v), -1);
            }
            for (int bad : NOBODIES) {
                for (int v = -1; v <= 4; v++) {
                    c.due("makes(" + bad + ", " + v + ")", x.makes(bad, v), -1);
                }
            }
            c.dueState("refused ones", x, state);
        });
    }

    private static void unmounts(Edges e) {
        e.edge(13, "What is mounted at a DIR of a MOUNT goes, and, of each other one of SPREAD of that MOUNT that LETS a copy come there,"
            + " what is at the same DIR of it,", c -> {
                MountPeers x = Worlds.chain();
                x.mounts(1, 0);
                x.keep(0);
                c.due("in 2, and so in 1 and 3", x.unmounts(2, 0), 3);
                c.dueRow("in 2", x, 16 | 32 | 64);
                x.again(0);
                c.due("in 3: not back", x.unmounts(3, 0), 1);
                c.dueRow("in 3", x, 64);
                x.again(0);
                Worlds.ruled(x, "i=3");
                c.due("by a rule", x.unmounts(2, 0), 2);
                c.dueRow("by a rule: in 2, that need not let, and in 3", x, 32 | 64);
                x.again(0);
                Worlds.ruled(x, "");
                x.unmounts(3, 0);
                c.due("3 has nothing there", x.unmounts(1, 0), 2);
                MountPeers y = Worlds.ruled(Worlds.peers(), "0");
                y.mounts(1, 0);
                y.mounts(2, 0);
                Worlds.ruled(y, "");
                c.due("also what is no copy of it", y.unmounts(1, 0), 2);
                MountPeers z = Worlds.peers();
                z.mounts(1, 0);
                Worlds.ruled(z, "k");
                c.due("k as ahead of it", z.unmounts(1, 0), 2);
                MountPeers h = Worlds.high();
                h.mounts(1, 0);
                c.due("in 1 and in 23", h.unmounts(1, 0), 2);
                c.dueRow("in 1 and in 23", h, 4 | 8);
                MountPeers s = Worlds.longChain();
                s.unmounts(0, 3);
                s.peers(3);
                c.due("a slave that went is none any more", s.row(1), 0);
                c.due("nor is it in a spread", s.spread(1), 2 | 4 | 8);
            });
        e.edge(13, "if nothing has that as PARENT", c -> {
            MountPeers x = Worlds.ruled(Worlds.peers(), "0");
            x.mounts(1, 0);
            x.mounts(2, 0);
            x.mounts(4, 3);
            Worlds.ruled(x, "");
            c.due("that of 2 is parent of 5", x.unmounts(1, 0), 1);
            c.dueRow("that of 2 stays", x, 8);
            c.due("count(0)", x.count(0), 1 | 2 | 4 | 16 | 32);
            MountPeers y = Worlds.after("ma.k1a.ba:b.mc.");
            for (int m = 3; m < 21; m++) {
                y.mounts(m, 0);
            }
            y.mounts(1, 0);
            c.due("22 and 23 are parents of none", y.unmounts(1, 0), 2);
            c.dueRow("22 and 23", y, 3 << 22);
            MountPeers z = Worlds.line(23);
            c.due("22 is parent of 23", z.unmounts(21, 0), -3);
        });
        e.edge(13, "(each LEAVES its GROUP, by the number of the one in which it was;", c -> {
            MountPeers x = Worlds.chain();
            x.mounts(1, 0);
            x.binds(6, 0, 3);
            c.due("7 has group 4 and master 3", x.mount(7, 2) * 10 + x.mount(7, 3), 43);
            x.unmounts(1, 0);
            c.due("7 has group 4 still", x.mount(7, 2), 4);
            c.due("4 and 5 went, group 3 with them: 7 has no master", x.mount(7, 3), 0);
            MountPeers y = Worlds.longChain();
            y.unmounts(0, 2);
            c.due("3 went, group 2 with it: 4 has its master", y.mount(4, 3), 1);
            y.unmounts(0, 0);
            c.due("1 went, 2 has group 1 still", y.mount(4, 3), 1);
            y.unmounts(0, 1);
            c.due("2 went", y.mount(4, 3), 0);
        });
        e.edge(13, "nothing that comes by this is asked again):", c -> {
            MountPeers x = Worlds.after("ma.mb.k1b.bb:c.ua.");
            Worlds.ruled(x, "0");
            c.due("1 in 3, a peer of 2 and 3", x.binds(2, 3, 0), 1);
            c.due("4 in 2", x.mounts(2, 0), 4);
            c.due("5 in 1", x.mounts(1, 0), 5);
            Worlds.ruled(x, "");
            c.due("4, and 5 in 1", x.unmounts(2, 0), 2);
            c.dueRow("1 in 3 was parent of 5, and stays", x, 16 | 32);
            c.due("at(3, 0)", x.at(3, 0), 1);
        });
        e.edge(13, "how many went; the ROW: their set.", c -> {
            MountPeers x = Worlds.after("ma.");
            c.due("one", x.unmounts(0, 0), 1);
            c.dueRow("one", x, 2);
            c.due("acts", x.count(4), 2);
            c.due("can be undone", x.count(8), 2);
            MountPeers y = Worlds.after("ma.k3a.");
            y.unmounts(0, 0);
            c.due("no unbindable one is left", y.count(3), 0);
            c.due("its number comes again", y.mounts(0, 1), 1);
            dueMount(c, y, 1, 0, 1, 0, 0, 0, 1);
        });
    }

    private static void unmountsRefused(Edges e) {
        e.edge(13, "-2: nothing is there;", c -> {
            MountPeers x = Worlds.peers();
            x.mounts(1, 0);
            Worlds.ruled(x, "i=1");
            x.unmounts(1, 0);
            String state = Check.stateOf(x);
            c.due("nothing in 1, though its peer has something", x.unmounts(1, 0), -2);
            c.due("nothing in ROOT", x.unmounts(0, 3), -2);
            c.dueState("refused ones", x, state);
            c.dueRow("refused ones", x, 8);
        });
        e.edge(13, "-3: something has it as PARENT;", c -> {
            MountPeers x = Worlds.peers();
            x.mounts(1, 0);
            Worlds.ruled(x, "0");
            x.mounts(3, 0);
            String state = Check.stateOf(x);
            c.due("3 is parent of 5", x.unmounts(1, 0), -3);
            c.due("1 is parent of 3", x.unmounts(0, 0), -3);
            c.dueState("refused ones", x, state);
            c.due("5 is parent of none", x.unmounts(3, 0), 1);
            c.due("nor is 3 then", x.unmounts(1, 0), 1);
        });
        e.edge(13, "NONE: none such.", c -> {
            MountPeers x = Worlds.after("ma.mb.mc.md.");
            String state = Check.stateOf(x);
            for (int[] bad : NO_PLACES) {
                c.due("unmounts(" + bad[0] + ", " + bad[1] + ")", x.unmounts(bad[0], bad[1]), -1);
            }
            c.dueState("refused ones", x, state);
        });
    }

    private static void moves(Edges e) {
        e.edge(14, "A MOUNT goes to a DIR of a MOUNT, with all that is IN it: 100 times the PARENT before and the DIR.", c -> {
            MountPeers x = Worlds.after("ma.mad.madb.mb.mba.k1adb.");
            c.due("2 of 1 to 5", x.moves(2, 5, 2), 103);
            dueMount(c, x, 2, 5, 2, 0, 0, 0, 3);
            dueMount(c, x, 3, 2, 1, 1, 0, 1, 4);
            c.due("nothing is at the place ahead of it", x.at(1, 3), 24);
            c.due("one in ROOT, to another dir of it", x.moves(1, 0, 3), 0);
            c.due("at d", x.at(0, 3), 1);
            c.due("acts", x.count(4), 8);
            c.due("can be undone", x.count(8), 3);
            MountPeers y = Worlds.line(23);
            c.due("of 22", y.moves(23, 0, 3), 2200);
            MountPeers z = Worlds.after("ma.k1a.mb.");
            c.due("one with a group itself", z.moves(1, 2, 0), 0);
            c.due("an unbindable one", z.makes(1, 3) == 13 && z.moves(1, 0, 3) == 200, true);
            c.due("it is so still", z.mount(1, 4), 3);
        });
        e.edge(14, "-2: something is there;", c -> {
            MountPeers x = Worlds.after("ma.mb.mba.k1b.");
            String state = Check.stateOf(x);
            c.due("of another", x.moves(1, 0, 1), -2);
            c.due("itself", x.moves(1, 0, 0), -2);
            c.due("ahead of -3: ROOT", x.moves(0, 0, 0), -2);
            c.due("ahead of -3: in itself", x.moves(2, 2, 0), -2);
            c.due("ahead of -6", x.moves(1, 2, 0), -2);
            c.due("ahead of -5", x.moves(3, 0, 0), -2);
            c.dueState("refused ones", x, state);
        });
        e.edge(14, "-3: that MOUNT is it, or IN it, or it is ROOT;", c -> {
            MountPeers x = Worlds.line(3);
            x.makes(1, 1);
            String state = Check.stateOf(x);
            c.due("it", x.moves(1, 1, 1), -3);
            c.due("in it", x.moves(1, 2, 1), -3);
            c.due("in what is in it", x.moves(1, 3, 1), -3);
            c.due("ahead of -5: it is in one with a group", x.moves(2, 2, 1), -3);
            c.due("ROOT", x.moves(0, 0, 1), -3);
            c.due("ROOT to one that is in it", x.moves(0, 3, 1), -3);
            c.due("ahead of -6: ROOT to one with a group", x.moves(0, 1, 1), -3);
            c.dueState("refused ones", x, state);
        });
        e.edge(14, "-5: its PARENT has a GROUP;", c -> {
            MountPeers x = Worlds.after("ma.maa.mb.mba.k1a.k1b.");
            String state = Check.stateOf(x);
            c.due("to ROOT", x.moves(2, 0, 2), -5);
            c.due("ahead of -6", x.moves(2, 3, 1), -5);
            c.due("to another dir of its parent", x.moves(2, 1, 1), -5);
            c.dueState("refused ones", x, state);
            MountPeers y = Worlds.after("ma.k1a.ba:b.k2b.mba.");
            c.due("a master alone", y.moves(3, 0, 2), 200);
        });
        e.edge(14, "-6: that MOUNT has a GROUP;", c -> {
            MountPeers x = Worlds.after("ma.k1a.ba:b.mc.");
            String state = Check.stateOf(x);
            c.due("a group", x.moves(3, 1, 0), -6);
            c.dueState("refused ones", x, state);
            x.makes(2, 2);
            c.due("a master alone", x.moves(3, 2, 0), 2);
        });
        e.edge(14, "NONE: none such.", c -> {
            MountPeers x = Worlds.after("ma.mb.mc.md.");
            String state = Check.stateOf(x);
            for (int bad : NOBODIES) {
                c.due("moves(" + bad + ", 1, 0)", x.moves(bad, 1, 0), -1);
            }
            for (int[] bad : NO_PLACES) {
                c.due("moves(2, " + bad[0] + ", " + bad[1] + ")", x.moves(2, bad[0], bad[1]), -1);
            }
            c.dueState("refused ones", x, state);
        });
    }
}

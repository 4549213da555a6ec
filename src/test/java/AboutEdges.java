/** What the document says of the whole, ahead of its terms: each part in a short run of calls. */
final class AboutEdges {
    private AboutEdges() {
    }

    static void tell(Edges e) {
        whole(e);
        acts(e);
        questions(e);
        others(e);
        calls(e);
    }

    private static void dueKinds(Check c, MountPeers x, int... kinds) {
        for (int m = 0; m < kinds.length; m++) {
            c.due("kind of " + m, x.mount(m, 4), kinds[m]);
        }
    }

    private static void whole(Edges e) {
        e.edge(Edges.ABOUT, "Mounts in peers, slaves, private and unbindable ones:", c -> {
            MountPeers x = Worlds.longChain();
            x.makes(0, 3);
            dueKinds(c, x, 3, 1, 1, 4, 2);
            x.makes(1, 0);
            dueKinds(c, x, 3, 0, 1, 4, 2);
        });
        e.edge(Edges.ABOUT, "a tree of mounts, each at a place of another one;", c -> {
            MountPeers x = Worlds.after("ma.mad.mada.");
            c.due("parent of 3", x.mount(3, 0), 2);
            c.due("parent of 2", x.mount(2, 0), 1);
            c.due("parent of 1", x.mount(1, 0), 0);
            c.due("dir of 2", x.mount(2, 1), 3);
            c.due("at d of 1", x.at(1, 3), 2);
        });
        e.edge(Edges.ABOUT, "what is mounted in one that is shared is mounted in all its peers, and in all that are slaves of"
            + " these, and never back;", c -> {
                MountPeers x = Worlds.longChain();
                c.due("in 2: 2, 1, 3, 4", x.would(2, 0), 4);
                c.due("in 3: 3, 4", x.would(3, 0), 2);
                c.due("in 4: 4 alone", x.would(4, 0), 1);
            });
        e.edge(Edges.ABOUT, "paths and days told as texts;", c -> {
            MountPeers x = new MountPeers();
            c.due("day()", Check.say(x, "mb.mbc.").day(), 2);
            c.due("place()", Check.say(x, "bc").place(), 102);
            c.dueRow("place()", x, 2);
        });
        e.edge(Edges.ABOUT, "which copies are made by a rule told as a text;", c -> {
            MountPeers x = Worlds.ruled(Worlds.longChain(), "i=4");
            c.due("mounts()", x.mounts(1, 0), 5);
            c.dueRow("mounts(): in 1 and 4", x, 2, 32 | 64);
            c.due("in 4", x.at(4, 0), 6);
            c.due("in 2", x.at(2, 0), 24);
        });
    }

    private static void acts(Edges e) {
        e.edge(Edges.ABOUT, "mounts, binds, trees that are bound, kinds that are changed, unmounts that reach copies,"
            + " moves that are refused by kind, undone;", c -> {
                MountPeers x = new MountPeers();
                String[] states = new String[8];
                states[0] = Check.stateOf(x);
                c.due("mounts()", x.mounts(0, 0), 1);
                states[1] = Check.stateOf(x);
                c.due("makes()", x.makes(1, 1), 1);
                states[2] = Check.stateOf(x);
                c.due("binds()", x.binds(1, 0, 1), 2);
                states[3] = Check.stateOf(x);
                c.due("mounts() in both", x.mounts(1, 3), 3);
                states[4] = Check.stateOf(x);
                c.due("trees()", x.trees(2, 0, 2), 5);
                states[5] = Check.stateOf(x);
                c.due("unmounts() in all three", x.unmounts(2, 3), 3);
                states[6] = Check.stateOf(x);
                c.due("moves() of one that is in none with a group", x.moves(5, 0, 3), 2);
                c.due("moves() into one with a group", x.moves(5, 1, 0), -6);
                c.due("moves() of one that is in one with a group", x.mounts(1, 0) < 0 ? 0 : x.moves(3, 0, 2), -5);
                c.due("undo() of the mounts()", x.undo(), 7);
                for (int left = 6; left >= 0; left--) {
                    c.due("undo()", x.undo(), left);
                    c.dueState("undo()", x, states[left]);
                }
            });
    }

    private static void questions(Edges e) {
        e.edge(Edges.ABOUT, "where an act spreads, what it would make, who are peers and slaves, chains of masters,"
            + " what two trees show, whom a mount keeps from an act;", c -> {
                MountPeers x = Worlds.longChain();
                x.mounts(3, 0);
                c.due("spread()", x.spread(1), 2 | 4 | 8 | 16);
                c.due("would()", x.would(1, 0), 2);
                c.dueRow("would()", x, 1, 2);
                c.due("peers()", x.peers(2), 2 | 4);
                c.dueRow("peers()", x, 2, 8);
                c.due("masters()", x.masters(4), 2);
                c.dueRow("masters()", x, 3, 1);
                c.due("alike() of 3, 4", x.alike(3, 4), 1);
                c.due("alike() of 1, 4", x.alike(1, 4), 0);
                c.dueRow("alike() of 1, 4", x, 0);
                c.due("keepers(): if 3 went, 4 would be a slave of 1", x.keepers(1, 4), 0);
                c.due("keepers() of what does not spread", x.keepers(4, 1), -2);
            });
        e.edge(Edges.ABOUT, "which mount it was;", c -> {
            MountPeers x = Worlds.longChain();
            x.heard(0, 1);
            x.heard(2, 1);
            c.due("of kind 1, at b", x.fits(), 4);
        });
        e.edge(Edges.ABOUT, "laws of copies that fit what was seen;", c -> {
            MountPeers x = new MountPeers();
            x.saw(6, 3, 1);
            c.due("six steps; three or fewer", x.laws(), 4);
            c.dueRow("laws()", x, 6, 0);
        });
    }

    private static void others(Edges e) {
        e.edge(Edges.ABOUT, "how likely so many copies come;", c -> {
            MountPeers x = Worlds.longChain();
            c.due("odds()", x.odds(2, 3, 1), 0);
            c.dueRow("all three by a tenth", x, 1, 1000);
        });
        e.edge(Edges.ABOUT, "two who cut a tree by turns;", c -> {
            MountPeers x = Worlds.after("ma.mb.mbd.");
            c.due("hacks()", x.hacks(0), 1);
            c.dueRow("3 is cut, so that 1 and 2 are left", x, 3);
        });
        e.edge(Edges.ABOUT, "copies at rest;", c -> {
            MountPeers x = new MountPeers();
            c.due("rests()", x.rests(3), 2);
            c.dueRow("none and one", x, 0, 1);
        });
        e.edge(Edges.ABOUT, "what another rule would do;", c -> {
            MountPeers x = Worlds.longChain();
            c.due("law()", Check.say(x, "0").law(1, 0), -3);
            c.dueRow("law()", x, 1, 4);
            c.due("the rule is as it was", x.would(1, 0), 4);
        });
        e.edge(Edges.ABOUT, "and days drawn by a seed.", c -> {
            MountPeers x = new MountPeers();
            c.due("years()", x.years(7, 40), 4);
            c.dueRow("years()", x, 1, 4);
            c.dueState("mounts(0, 0), binds(1, 0, 2), mounts(2, 3), makes(3, 1)", x, Check.stateOf(drawnBySeven()));
        });
    }

    /** What the document's draws are by the seed 7, reckoned by hand: all others of the 40 are refused. */
    private static MountPeers drawnBySeven() {
        MountPeers x = new MountPeers();
        x.mounts(0, 0);
        x.binds(1, 0, 2);
        x.mounts(2, 3);
        x.makes(3, 1);
        return x;
    }

    private static void calls(Edges e) {
        e.edge(Edges.ABOUT, "An object is used for at most 512 calls after it has been made;", c -> {
            MountPeers x = new MountPeers();
            for (int i = 0; i < 256; i++) {
                c.due("mounts() " + i, x.mounts(0, 0), 1);
                c.due("unmounts() " + i, x.unmounts(0, 0), 1);
            }
            MountPeers y = new MountPeers();
            for (int i = 1; i <= 511; i++) {
                c.due("makes() " + i, y.makes(0, i % 2), i == 1 ? 1 : i % 2 == 1 ? 1 : 10);
            }
            c.due("the 512th call: the next group behind 256 new ones", y.count(5), 257);
            MountPeers z = new MountPeers();
            for (int i = 1; i <= 511; i++) {
                z.years(i, 40);
            }
            c.due("the 512th call: ROOT is there", z.count(0) & 1, 1);
        });
        e.edge(Edges.ABOUT, "what later calls answer is free.", c -> {
            MountPeers x = new MountPeers();
            for (int i = 0; i < 2000; i++) {
                x.years(i, 40);
                x.undo();
                x.sign(i);
                x.heard(i % 5, i % 5);
                x.saw(i % 10, i % 5, i % 2);
            }
            c.due("they answer", x.count(11), -1);
        });
    }
}

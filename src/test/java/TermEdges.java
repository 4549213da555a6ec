/** The document's terms: mounts, kinds, spreads, clones, rows, refusals. */
final class TermEdges {
    private static final int ALL = (1 << 24) - 1;

    private TermEdges() {
    }

    static void tell(Edges e) {
        mounts(e);
        kinds(e);
        groups(e);
        clones(e);
        copies(e);
        acts(e);
        rows(e);
        refusals(e);
        laws(e);
    }

    /** Group, master and kind of a mount. */
    private static void dueKind(Check c, MountPeers x, int m, int group, int master, int kind) {
        c.due("group of " + m, x.mount(m, 2), group);
        c.due("master of " + m, x.mount(m, 3), master);
        c.due("kind of " + m, x.mount(m, 4), kind);
    }

    private static void mounts(Edges e) {
        e.edge(Edges.TERMS, "MOUNTS 0 .. 23, there or not;", c -> {
            MountPeers x = Worlds.line(23);
            c.due("all are there", x.count(0), ALL);
            c.due("parent of 23", x.mount(23, 0), 22);
            c.dueNone("mount(24, 0)", () -> x.mount(24, 0));
            c.dueNone("mount(-1, 0)", () -> x.mount(-1, 0));
            c.due("unmounts(22, 0)", x.unmounts(22, 0), 1);
            c.dueNone("mount(23, 0), that is not there", () -> x.mount(23, 0));
            MountPeers y = Worlds.high();
            c.due("23 is at d of ROOT: mounts()", y.mounts(0, 3), -2);
            c.due("23 is at d of ROOT: would()", y.would(0, 3), -2);
            c.due("in it", y.mounts(23, 0), 2);
            c.due("one is in it", y.inside(23), 4);
            c.due("binds() of it", y.binds(23, 0, 1), 4);
            c.due("it has group 1", y.mount(4, 2), 1);
        });
        e.edge(Edges.TERMS, "0, ROOT, is there always.", c -> {
            MountPeers x = Worlds.after("ma.ua.");
            c.due("count(0) when all others went", x.count(0), 1);
            c.due("ROOT can't go elsewhere", x.moves(0, 0, 0), -3);
            c.due("undo()", x.undo(), 0);
            c.due("count(0) behind it", x.count(0), 1);
        });
        e.edge(Edges.TERMS, "Each has four DIRS 0 .. 3 (in texts a .. d).", c -> {
            MountPeers x = new MountPeers();
            for (int d = 0; d < 4; d++) {
                c.due("mounts(0, " + d + ")", x.mounts(0, d), d + 1);
                c.due("place() of it", Check.say(x, "" + (char) ('a' + d)).place(), d);
            }
            c.due("mounts(1, 4)", x.mounts(1, 4), -1);
            c.due("mounts(1, -1)", x.mounts(1, -1), -1);
            c.due("place() of e", Check.say(x, "e").place(), -1);
            c.due("place() of the sign ahead of a", Check.say(x, "`").place(), -1);
        });
        e.edge(Edges.TERMS, "Each but ROOT is at a PLACE: a MOUNT (its PARENT) and a DIR of that;", c -> {
            MountPeers x = Worlds.after("md.mdb.");
            c.due("parent of ROOT", x.mount(0, 0), 24);
            c.due("dir of ROOT", x.mount(0, 1), 4);
            c.due("parent of 2", x.mount(2, 0), 1);
            c.due("dir of 2", x.mount(2, 1), 1);
        });
        e.edge(Edges.TERMS, "at most one is at a PLACE.", c -> {
            MountPeers x = Worlds.after("ma.mb.mba.");
            c.due("mounts()", x.mounts(0, 0), -2);
            c.due("binds()", x.binds(2, 0, 0), -2);
            c.due("trees()", x.trees(2, 0, 0), -2);
            c.due("moves()", x.moves(2, 0, 0), -2);
            c.due("it is still there", x.at(0, 0), 1);
        });
        e.edge(Edges.TERMS, "A MOUNT is IN another one, if that is its PARENT, or its PARENT is IN that.", c -> {
            MountPeers x = Worlds.line(3);
            c.due("in ROOT", x.inside(0), 2 | 4 | 8);
            c.due("in 1", x.inside(1), 4 | 8);
            c.due("in 3: not itself", x.inside(3), 0);
        });
    }

    private static void kinds(Edges e) {
        e.edge(Edges.TERMS, "Each has GROUP (0: none, or a number) and MASTER (0: none, or a number), and is UNBINDABLE or not.", c -> {
            MountPeers x = Worlds.longChain();
            x.makes(0, 3);
            c.due("with a group", x.count(1), 2 | 4 | 8);
            c.due("with a master", x.count(2), 8 | 16);
            c.due("unbindable", x.count(3), 1);
            dueKind(c, x, 0, 0, 0, 3);
            dueKind(c, x, 4, 0, 2, 2);
        });
        e.edge(Edges.TERMS,
            "KIND: 0 (no GROUP, no MASTER), 1 (GROUP, no MASTER), 2 (MASTER, no GROUP), 3 UNBINDABLE (neither), 4 (both).", c -> {
                MountPeers x = Worlds.longChain();
                dueKind(c, x, 0, 0, 0, 0);
                dueKind(c, x, 1, 1, 0, 1);
                dueKind(c, x, 3, 2, 1, 4);
                dueKind(c, x, 4, 0, 2, 2);
                x.makes(0, 3);
                dueKind(c, x, 0, 0, 0, 3);
            });
        e.edge(Edges.TERMS, "PEERS of a MOUNT: itself (also without GROUP) and those with its GROUP (not 0);", c -> {
            MountPeers x = Worlds.after("ma.k1a.ba:b.mc.");
            c.due("of one with a group", x.peers(2), 2 | 4);
            c.due("of one without: not the other ones without", x.peers(3), 8);
            c.due("of ROOT", x.peers(0), 1);
        });
        e.edge(Edges.TERMS, "SLAVES of it: those whose MASTER its GROUP is.", c -> {
            MountPeers x = Worlds.longChain();
            x.peers(2);
            c.due("of 2", x.row(1), 8);
            x.peers(3);
            c.due("of 3", x.row(1), 16);
            x.peers(0);
            c.due("of one without group: not those without master", x.row(1), 0);
        });
        e.edge(Edges.TERMS, "ROOT is of KIND 0 at first.", c -> dueKind(c, new MountPeers(), 0, 0, 0, 0));
        e.edge(Edges.TERMS, "A new GROUP is the next number (1, 2, ..) that never was.", c -> {
            MountPeers x = new MountPeers();
            c.due("the next one at first", x.count(5), 1);
            x.makes(0, 1);
            c.due("the first one", x.mount(0, 2), 1);
            x.makes(0, 0);
            c.due("the next one, though nobody has 1", x.count(5), 2);
            x.makes(0, 1);
            c.due("the second one", x.mount(0, 2), 2);
            x.makes(0, 1);
            c.due("no new one for one that has one", x.count(5), 3);
        });
        e.edge(Edges.TERMS,
            "SPREAD of a MOUNT (a set): itself, its PEERS, SLAVES of all of these, PEERS and SLAVES of those, and so on", c -> {
                MountPeers x = Worlds.after("ma.k1a.ba:b.k2b.k1b.bb:c.k2c.k1c.md.bc:da.bc:db.k2db.");
                c.due("2 has master 1, 3 and 5 master 2, 6 master 3", x.mount(6, 3), 3);
                c.due("down to the slaves of peers of slaves of slaves", x.spread(1), 2 | 4 | 8 | 32 | 64);
                c.due("peers, and their slaves", x.spread(5), 8 | 32 | 64);
                MountPeers y = Worlds.after("ma.k1a.ba:b.k2b.ba:c.k2c.k1c.bc:d.k2d.");
                c.due("2 has no group, and is less than 3, that has one", y.spread(1), 2 | 4 | 8 | 16);
                c.due("of 23", Worlds.high().spread(23), 2 | 1 << 23);
            });
        e.edge(Edges.TERMS, "(of one without GROUP: itself alone)", c -> {
            MountPeers x = Worlds.longChain();
            c.due("of a slave without group", x.spread(4), 16);
            c.due("of ROOT", x.spread(0), 1);
            c.due("mounts(4, 0)", x.mounts(4, 0), 5);
            c.dueRow("mounts(4, 0)", x, 1, 32);
        });
    }

    private static void lets(Check c, String rule, boolean want) {
        MountPeers x = Worlds.ruled(Worlds.peers(), rule);
        c.due("copies in 1 and 2 by " + rule, x.would(1, 3), want ? 2 : 1);
    }

    private static void groups(Edges e) {
        e.edge(Edges.TERMS, "THE RULE is a text of at most 40 signs", c -> {
            c.due("40 signs", Check.say(new MountPeers(), "-".repeat(39) + "1").rule(), 0);
            c.due("41 signs", Check.say(new MountPeers(), "-".repeat(40) + "1").rule(), -41);
            lets(c, "-1" + "+0".repeat(18) + "<0", true);
            lets(c, "-1" + "+0".repeat(18) + ">0", false);
        });
        e.edge(Edges.TERMS, "(at first none: 1)", c -> c.due("copies by no rule", Worlds.peers().would(1, 3), 2));
        e.edge(Edges.TERMS, "EXPRESSION: < > = bind least (two; 1 or 0; not one behind the other),", c -> {
            lets(c, "2<1+2", true);
            lets(c, "(1<2)=1", true);
            lets(c, "(2<1)=0", true);
            lets(c, "(2>1)=1", true);
            lets(c, "(1>2)=0", true);
            lets(c, "(2=2)=1", true);
            lets(c, "(1=2)=0", true);
            lets(c, "(1<2)-1", false);
            lets(c, "(2<1)+1", true);
            lets(c, "(1<2)+(3<4)=2", true);
            lets(c, "((1<2)<(3<4))+(1=1)", true);
            lets(c, "2<2", false);
            lets(c, "2>2", false);
            lets(c, "2>1+0", true);
            lets(c, "6=2*3", true);
            lets(c, "6=2+3", false);
            c.due("1<2<3", Check.say(new MountPeers(), "1<2<3").rule(), -4);
            c.due("1=2>3", Check.say(new MountPeers(), "1=2>3").rule(), -4);
            c.due("1<(2)<3", Check.say(new MountPeers(), "1<(2)<3").rule(), -6);
            c.due("(1<(2<3)=4)", Check.say(new MountPeers(), "(1<(2<3)=4)").rule(), -9);
            c.due("(1<2)<3+4>5", Check.say(new MountPeers(), "(1<2)<3+4>5").rule(), -10);
            c.due("1<2+3*-4=5", Check.say(new MountPeers(), "1<2+3*-4=5").rule(), -9);
            lets(c, "1<(2<3)+1", true);
        });
        e.edge(Edges.TERMS, "then + - (from the left),", c -> {
            lets(c, "9-4-3=2", true);
            lets(c, "9-4+3=8", true);
            lets(c, "9-2*3=3", true);
        });
        e.edge(Edges.TERMS, "then * / (from the left; by 0: 0; cut to 0),", c -> {
            lets(c, "100/10/5=2", true);
            lets(c, "8/4*2=4", true);
            lets(c, "7/0=0", true);
            lets(c, "7/0+1", true);
            lets(c, "0/0=0", true);
            lets(c, "7/4=1", true);
            lets(c, "(0-7)/4=-1", true);
            lets(c, "7/(0-4)=-1", true);
        });
        e.edge(Edges.TERMS, "then - ahead of a thing (any many);", c -> {
            lets(c, "-1", false);
            lets(c, "--1", true);
            lets(c, "---1=-1", true);
            lets(c, "2*--3=6", true);
            lets(c, "2-----3=-1", true);
            lets(c, "-2+3=1", true);
            lets(c, "-(2+3)=-5", true);
            // the least int is its own opposite: so it shows that - works ahead of /
            lets(c, "-(512*512*512*16)/2<0", true);
            lets(c, "-512*512*512*16/2<0", true);
            lets(c, "-(512*512*512*16/2)<0", false);
        });
        e.edge(Edges.TERMS, "things: a NUMBER of 1 to 3 digits,", c -> {
            lets(c, "9=9", true);
            lets(c, "99=10*9+9", true);
            lets(c, "999=100*9+99", true);
            lets(c, "007=7", true);
            c.due("four digits", Check.say(new MountPeers(), "1000").rule(), -4);
            c.due("four digits of 0", Check.say(new MountPeers(), "0000").rule(), -4);
        });
        e.edge(Edges.TERMS, "an EXPRESSION in ( ) (at most 4 in one another),", c -> {
            lets(c, "((((1))))", true);
            lets(c, "((((1))))-((((1))))", false);
            c.due("five", Check.say(new MountPeers(), "(((((1)))))").rule(), -5);
            c.due("none in it", Check.say(new MountPeers(), "()").rule(), -2);
            c.due("a fifth behind a closed one", Check.say(new MountPeers(), "((((1)+(1").rule(), -10);
            c.due("four again behind a closed one", Check.say(new MountPeers(), "((((1)))+(((1))))").rule(), 0);
        });
        letters(e);
    }

    /** Those others of a spread that let a copy come at a dir by a rule. */
    private static void dueHits(Check c, MountPeers x, String rule, int m, int d, int hits) {
        Worlds.ruled(x, rule);
        int came = x.would(m, d);
        int set = 0;
        for (int i = 1; i < came; i++) {
            set |= 1 << x.row(i);
        }
        c.due("those that let a copy come by " + rule, set, hits);
    }

    private static void letters(Edges e) {
        e.edge(Edges.TERMS, "and, of a MOUNT and a DIR: n how many steps from ROOT to it (ROOT: 0),", c -> {
            MountPeers x = Worlds.after("ma.k1a.ba:b.mc.ba:ca.mcb.ba:cba.");
            dueHits(c, x, "n=1", 1, 3, 4);
            dueHits(c, x, "n=2", 1, 3, 16);
            dueHits(c, x, "n=3", 1, 3, 64);
            MountPeers root = new MountPeers();
            root.makes(0, 1);
            root.binds(0, 0, 0);
            dueHits(c, root, "n=0", 1, 3, 1);
            dueHits(c, root, "n", 1, 3, 0);
        });
        e.edge(Edges.TERMS, "k how many MOUNTS have it as PARENT,", c -> {
            MountPeers x = Worlds.ruled(Worlds.peers(), "0");
            dueHits(c, x, "k=0", 1, 3, 4);
            x.mounts(2, 0);
            dueHits(c, x, "k=0", 1, 3, 0);
            dueHits(c, x, "k=1", 1, 3, 4);
            Worlds.ruled(x, "0");
            x.mounts(2, 1);
            x.mounts(2, 2);
            x.mounts(3, 0);
            dueHits(c, x, "k=3", 1, 3, 4);
        });
        e.edge(Edges.TERMS, "g how many PEERS it has (0: no GROUP),", c -> {
            MountPeers x = Worlds.longChain();
            dueHits(c, x, "g=2", 1, 3, 4);
            dueHits(c, x, "g=1", 1, 3, 8);
            dueHits(c, x, "g=0", 1, 3, 16);
        });
        e.edge(Edges.TERMS, "i its number, d the DIR,", c -> {
            MountPeers x = Worlds.longChain();
            dueHits(c, x, "i=3", 1, 3, 8);
            dueHits(c, x, "i>1", 1, 3, 4 | 8 | 16);
            dueHits(c, Worlds.high(), "i=23", 1, 0, 1 << 23);
            dueHits(c, Worlds.high(), "i=22", 1, 0, 0);
            dueHits(c, x, "d", 1, 0, 0);
            dueHits(c, x, "d=3", 1, 3, 4 | 8 | 16);
            dueHits(c, x, "d=3", 1, 2, 0);
        });
        e.edge(Edges.TERMS, "w ACTS by 7 (rest),", c -> {
            MountPeers x = Worlds.peers();
            for (int acts = 3; acts <= 15; acts++) {
                c.due("acts", x.count(4), acts);
                dueHits(c, x, "w=" + acts % 7, 1, 3, 4);
                dueHits(c, x, "w=" + (acts + 1) % 7, 1, 3, 0);
                x.makes(0, 0);
            }
        });
        e.edge(Edges.TERMS, "q KIND.", c -> {
            MountPeers x = Worlds.longChain();
            dueHits(c, x, "q=1", 1, 3, 4);
            dueHits(c, x, "q=4", 1, 3, 8);
            dueHits(c, x, "q=2", 1, 3, 16);
        });
        e.edge(Edges.TERMS, "As ints.", c -> {
            int wrapped = 999 * 999 * 999 * 3;
            c.due("it wraps around to below 0", wrapped < 0, true);
            lets(c, "999*999*999*3", false);
            lets(c, "-(999*999*999*3)", true);
            lets(c, "999*999*999*2+200*999*999>0", 999 * 999 * 999 * 2 + 200 * 999 * 999 > 0);
            lets(c, "512*512*512*16=-(512*512*512*16)", true);
            lets(c, "512*512*512*16/-1<0", true);
            lets(c, "-(512*512*512*16)<0", true);
            lets(c, "512*512*512*16/1=512*512*512*16", true);
            lets(c, "0-512*512*512*8-512*512*512*8-1", true);
            lets(c, "512*512*512*8+512*512*512*8", false);
        });
        e.edge(Edges.TERMS, "The MOUNT LETS a copy come there, if that is above 0.", c -> {
            lets(c, "1", true);
            lets(c, "0", false);
            lets(c, "0-1", false);
            lets(c, "999", true);
        });
    }

    private static void clones(Edges e) {
        e.edge(Edges.TERMS, "A CLONE of a MOUNT F comes at a PLACE (M, D) where nothing is (F may be none: a new one):", c -> {
            MountPeers x = Worlds.peers();
            c.due("of 1", x.binds(1, 0, 2), 3);
            c.due("of none", x.mounts(0, 3), 4);
            dueKind(c, x, 3, 1, 0, 1);
            dueKind(c, x, 4, 0, 0, 0);
        });
        e.edge(Edges.TERMS,
            "HITS are those of SPREAD of M, but M, that have nothing at their DIR D and LET a copy come there"
            + " (as all is ahead of this).", c -> {
                MountPeers x = Worlds.ruled(Worlds.peers(), "0");
                c.due("M itself need not let one come", x.mounts(1, 0), 3);
                c.dueRow("M itself", x, 1, 8);
                Worlds.ruled(x, "");
                c.due("where M has nothing, but 1 has", x.mounts(2, 0), 4);
                c.dueRow("one that has something there", x, 1, 16);
                Worlds.ruled(x, "g=2");
                c.due("the clone is a peer of 1, but g is as ahead of it", x.binds(1, 1, 1), 5);
                c.dueRow("g as ahead of it", x, 2, 32 | 64);
                c.due("g behind it", x.would(1, 2), 1);
                MountPeers y = Worlds.ruled(Worlds.peers(), "w=3");
                c.due("w is as ahead of it", y.mounts(1, 0), 3);
                c.dueRow("w as ahead of it", y, 2, 8 | 16);
                MountPeers z = Worlds.peers();
                c.due("a clone that becomes a peer of M is no hit", z.binds(1, 1, 1), 3);
                c.dueRow("no hit", z, 2, 8 | 16);
                c.due("all four are peers", z.spread(1), 2 | 4 | 8 | 16);
            });
        e.edge(Edges.TERMS, "(1) At (M, D) comes a MOUNT, the least number that is not there:", c -> {
            MountPeers x = Worlds.after("ma.mb.mc.md.ub.ua.");
            c.due("1 and 2 are not there", x.mounts(4, 0), 1);
            c.due("2 is not there", x.mounts(4, 1), 2);
            c.due("1 .. 4 are there", x.mounts(4, 2), 5);
            MountPeers y = Worlds.peers();
            c.due("that of (1) comes first, also in the last one", y.mounts(2, 0), 3);
            c.due("the copy", y.at(1, 0), 4);
        });
        e.edge(Edges.TERMS, "GROUP and MASTER of F (0, 0 if F is none);", c -> {
            MountPeers x = Worlds.chain();
            x.binds(3, 0, 3);
            dueKind(c, x, 4, 2, 1, 4);
            x.mounts(4, 0);
            dueKind(c, x, 5, 3, 0, 1);
            MountPeers y = Worlds.after("ma.mb.");
            y.binds(1, 2, 0);
            dueKind(c, y, 3, 0, 0, 0);
            y.mounts(2, 1);
            dueKind(c, y, 4, 0, 0, 0);
            MountPeers z = Worlds.high();
            z.mounts(0, 1);
            dueKind(c, z, 2, 0, 0, 0);
        });
        e.edge(Edges.TERMS, "if M has a GROUP, and this one has none: GROUP is a new one.", c -> {
            MountPeers x = Worlds.longChain();
            c.due("of none in 1", x.mounts(1, 0), 5);
            dueKind(c, x, 5, 3, 0, 1);
            MountPeers y = Worlds.longChain();
            c.due("of a slave without group in 1", y.binds(4, 1, 0), 5);
            dueKind(c, y, 5, 3, 2, 4);
            MountPeers z = Worlds.longChain();
            c.due("of one with a group in 1", z.binds(2, 1, 0), 5);
            dueKind(c, z, 5, 1, 0, 1);
            c.due("of one without in ROOT, that has no group", z.binds(0, 4, 3), 9);
            dueKind(c, z, 9, 0, 0, 0);
            MountPeers s = Worlds.longChain();
            c.due("of a slave without group in a slave without group", s.binds(4, 4, 0), 5);
            dueKind(c, s, 5, 0, 2, 2);
        });
    }

    private static void copies(Edges e) {
        e.edge(Edges.TERMS, "(2) NEW of a GROUP: of that of M the GROUP that this one has;", c -> {
            MountPeers x = Worlds.after("ma.k1a.ba:b.k2b.md.k1d.");
            c.due("the clone of 3 (group 2) in 1", x.binds(3, 1, 0), 4);
            dueKind(c, x, 4, 2, 0, 1);
            dueKind(c, x, 5, 0, 2, 2);
            c.due("no new number", x.count(5), 3);
        });
        e.edge(Edges.TERMS,
            "of each other GROUP of a MOUNT of SPREAD of M, in the order of the least MOUNT of SPREAD that has it: a new one.", c -> {
                MountPeers x = Worlds.after("ma.k1a.ba:b.ba:c.k2b.k2c.k1c.k1b.");
                c.due("2 has the later number", x.mount(2, 2), 3);
                c.due("3 has the earlier number", x.mount(3, 2), 2);
                x.mounts(1, 0);
                c.due("of M", x.mount(4, 2), 4);
                c.due("of 2, as 2 is the least", x.mount(5, 2), 5);
                c.due("of 3", x.mount(6, 2), 6);
                c.due("the next one", x.count(5), 7);
                x.mounts(2, 1);
                x.mounts(1, 1);
                c.due("M, and both others, though 2 gets no copy", x.count(5), 11);
                MountPeers y = Worlds.after("ma.k1a.ba:b.k2b.k1b.bb:c.");
                y.mounts(1, 0);
                c.due("two of one group have one new one", y.mount(5, 2), 4);
                c.due("two of one group, the other one", y.mount(6, 2), 4);
                c.due("the next one of these", y.count(5), 5);
                MountPeers z = Worlds.rootAsSlave();
                z.mounts(1, 2);
                c.due("ROOT is the least that has group 2", z.mount(z.at(0, 2), 2), 4);
                c.due("its peer, too", z.mount(z.at(2, 2), 2), 4);
                MountPeers h = Worlds.high();
                h.makes(23, 2);
                h.makes(23, 1);
                h.mounts(1, 0);
                dueKind(c, h, 3, 4, 3, 4);
            });
        e.edge(Edges.TERMS, "(3) At (H, D) for each HIT H, by number, comes a MOUNT (the least number that is not there):", c -> {
            MountPeers x = Worlds.after("ma.k1a.ba:b.ba:c.ba:d.");
            c.due("in 3", x.mounts(3, 0), 5);
            c.due("then in 1", x.at(1, 0), 6);
            c.due("then in 2", x.at(2, 0), 7);
            c.due("then in 4", x.at(4, 0), 8);
            MountPeers y = Worlds.after("ma.k1a.mb.mc.ba:d.ub.");
            c.due("2 is not there: in 1", y.mounts(1, 0), 2);
            c.due("then in 4, the least that is not there", y.at(4, 0), 5);
        });
        e.edge(Edges.TERMS, "if GROUP of H is that of M: GROUP and MASTER are those of (1);", c -> {
            MountPeers x = Worlds.longChain();
            x.binds(4, 2, 0);
            dueKind(c, x, 5, 3, 2, 4);
            c.due("at(1, 0)", x.at(1, 0), 6);
            dueKind(c, x, 6, 3, 2, 4);
        });
        e.edge(Edges.TERMS, "else GROUP is NEW of that of H (0 if it has none),", c -> {
            MountPeers x = Worlds.longChain();
            x.mounts(1, 0);
            c.due("of 3, that has one", x.mount(x.at(3, 0), 2), 4);
            c.due("of 4, that has none", x.mount(x.at(4, 0), 2), 0);
            x.makes(3, 2);
            x.mounts(1, 1);
            c.due("of 3, that had one and has none", x.mount(x.at(3, 1), 2), 0);
        });
        e.edge(Edges.TERMS, "MASTER is NEW of MASTER of H (0 of none, and of one that nobody of SPREAD has as GROUP).", c -> {
            MountPeers x = Worlds.longChain();
            x.mounts(1, 0);
            c.due("of 3: that of M", x.mount(x.at(3, 0), 3), 3);
            c.due("of 4: that of 3", x.mount(x.at(4, 0), 3), 4);
            MountPeers y = Worlds.longChain();
            y.mounts(3, 0);
            c.due("(1) in 3, though its master is not in its spread", y.mount(y.at(3, 0), 3), 0);
            c.due("of 4: that of (1)", y.mount(y.at(4, 0), 3), 3);
            MountPeers z = Worlds.after("ma.");
            z.makes(0, 1);
            z.binds(0, 0, 1);
            z.makes(2, 2);
            z.mounts(0, 2);
            c.due("of a slave of ROOT's group", z.mount(z.at(2, 2), 3), 2);
            MountPeers h = Worlds.high();
            h.makes(1, 2);
            h.mounts(23, 0);
            c.due("of a slave of 23's group", h.mount(h.at(1, 0), 3), 2);
        });
        e.edge(Edges.TERMS,
            "A MOUNT LEAVES its GROUP: it has none then; if no other one has that: those whose MASTER it was have MASTER of this one"
            + " then.", c -> {
                MountPeers x = Worlds.longChain();
                x.makes(1, 0);
                c.due("2 has group 1 still: master of 3", x.mount(3, 3), 1);
                x.makes(3, 0);
                dueKind(c, x, 3, 0, 0, 0);
                c.due("nobody has group 2: 4 has the master of 3", x.mount(4, 3), 1);
                x.makes(2, 0);
                c.due("nobody has group 1, and 2 had no master", x.mount(4, 3), 0);
                c.due("4 is of kind 0 then", x.mount(4, 4), 0);
                MountPeers y = Worlds.rootAsSlave();
                y.makes(1, 0);
                c.due("ROOT had group 1 as its master", y.mount(0, 3), 0);
                c.due("2 had it, too", y.mount(2, 3), 0);
                MountPeers z = Worlds.high();
                z.makes(23, 2);
                z.makes(1, 0);
                c.due("23 had group 1 as its master", z.mount(23, 3), 0);
            });
    }

    private static void acts(Edges e) {
        e.edge(Edges.TERMS, "ACTS are counted: 0 .. (at first 0):", c -> c.due("at first", new MountPeers().count(4), 0));
        e.edge(Edges.TERMS, "mounts(), binds(), trees(), makes(), unmounts(), moves() that were done, 1 each"
            + " (those of a day(), too; day() itself is none).", c -> {
                MountPeers x = new MountPeers();
                x.mounts(0, 0);
                c.due("mounts()", x.count(4), 1);
                x.binds(1, 0, 1);
                c.due("binds()", x.count(4), 2);
                x.trees(1, 0, 2);
                c.due("trees()", x.count(4), 3);
                x.makes(0, 0);
                c.due("makes() that changes nothing", x.count(4), 4);
                x.unmounts(0, 2);
                c.due("unmounts()", x.count(4), 5);
                x.moves(2, 0, 3);
                c.due("moves()", x.count(4), 6);
                x.mounts(0, 0);
                x.binds(9, 0, 1);
                x.trees(1, 0, 0);
                x.makes(0, 2);
                x.unmounts(0, 2);
                x.moves(0, 0, 1);
                c.due("refused ones", x.count(4), 6);
                Worlds.day(x, "");
                c.due("an empty day", x.count(4), 6);
                Worlds.day(x, "mb.mc.mc.");
                c.due("two of a day", x.count(4), 8);
            });
    }

    private static void rows(Edges e) {
        e.edge(Edges.TERMS, "ROW: numbers told last by a call that says so.", c -> {
            MountPeers x = Worlds.peers();
            c.due("of the day", x.count(9), 2);
            x.spread(1);
            c.dueRow("spread()", x, 2);
            x.makes(0, 1);
            x.keep(0);
            x.heard(0, 0);
            c.dueRow("calls that tell none", x, 2);
        });
        e.edge(Edges.TERMS, "Rows of numbers are compared from the first on.", c -> {
            MountPeers x = Worlds.after("ma.maa.mb.mba.mbaa.maac.mab.");
            c.due("alike()", x.alike(1, 3), 0);
            c.dueRow("a a is less than a c, and than b", x, 0, 0);
        });
        e.edge(Edges.TERMS, "Sets (of MOUNTS) are bits.", c -> {
            MountPeers x = Worlds.line(23);
            c.due("0 .. 23", x.count(0), ALL);
            c.due("23", x.inside(22), 1 << 23);
        });
        e.edge(Edges.TERMS, "Fractions are told in lowest terms, upper and lower number (0 by 1).", c -> {
            MountPeers x = Worlds.peers();
            x.odds(1, 1, 4);
            c.dueRow("4 by 10", x, 2, 5);
            x.odds(1, 1, 0);
            c.dueRow("0 by 10", x, 0, 1);
            x.odds(1, 1, 10);
            c.dueRow("10 by 10", x, 1, 1);
            x.odds(1, 2, 5);
            c.dueRow("nothing", x, 0, 1);
        });
        e.edge(Edges.TERMS, "Questions change nothing.", c -> {
            MountPeers x = Worlds.longChain();
            x.sheet(2, 1, 1, 0);
            x.heard(1, 1);
            x.saw(1, 1, 1);
            x.mounts(1, 0);
            x.sign(0x61616161);
            String state = Check.stateOf(x);
            ask(x);
            c.dueState("all questions", x, state);
            c.due("the text", x.count(10), 4);
            c.due("what fits", x.fits(), 0x1FE);
            c.due("the rule", x.would(1, 1), 4);
            c.due("law() empties the text alone", Check.say(x, "0").law(1, 1), -3);
            c.dueState("law()", x, state);
            c.due("place()", Check.say(x, "aa").place(), 100);
            c.dueState("place()", x, state);
        });
    }

    private static void ask(MountPeers x) {
        for (int m = 0; m < 9; m++) {
            x.spread(m);
            x.peers(m);
            x.masters(m);
            x.inside(m);
            x.path(m);
            x.odds(m, 1, 5);
            x.hacks(m);
            for (int d = 0; d < 4; d++) {
                x.would(m, d);
                x.lost(m, d);
                x.at(m, d);
            }
            for (int other = 0; other < 9; other++) {
                x.keepers(m, other);
                x.alike(m, other);
            }
        }
        x.groups();
        x.largest();
        x.widest();
        x.fits();
        x.asks();
        x.laws();
        x.looks();
        x.rests(7);
    }

    /** Calls that do not read the text leave it, be they done or refused. */
    private static void dueText(Check c, MountPeers x) {
        Check.say(x, "b");
        for (int m : new int[] {3, 9}) {
            int[] answers = {x.mounts(m, 0), x.binds(m, 0, 0), x.makes(m, 3), x.moves(m, 4, 0), x.trees(m, 4, 0), x.unmounts(m, 0),
                x.sheet(m, 1, 0, 1), x.undo(), x.spread(m), x.peers(m), x.masters(m), x.groups(), x.keepers(1, m), x.inside(m),
                x.path(m), x.alike(1, m), x.largest(), x.would(m, 0), x.lost(m, 0), x.widest(), x.heard(m, 0), x.fits(), x.asks(),
                x.forget(), x.saw(0, m, 0), x.laws(), x.looks(), x.denies(), x.odds(m, 0, 0), x.hacks(m), x.rests(m),
                x.years(7, m), x.count(m), x.keep(m - 3) ? 1 : 0, x.again(m - 3) ? 1 : 0, x.mount(1, 0), x.at(1, 0)};
            c.due("signs behind " + answers.length + " calls", x.count(10), 1);
        }
        c.due("end() of too many", x.end(2), false);
        c.due("place() of it", x.place(), 1);
    }

    private static void refusals(Edges e) {
        e.edge(Edges.TERMS, "Refused calls answer NONE, or false, and change nothing but THE TEXT, which a call that reads it empties.",
            c -> {
                MountPeers x = Worlds.longChain();
                x.spread(1);
                Worlds.ruled(x, "0");
                String state = Check.stateOf(x);
                int[] answers = {x.mounts(9, 0), x.binds(9, 0, 0), x.trees(9, 0, 0), x.makes(9, 0), x.unmounts(9, 0), x.moves(9, 0, 0),
                    x.spread(9), x.peers(9), x.masters(9), x.keepers(9, 0), x.inside(9), x.path(9), x.alike(0, 9), x.would(9, 0),
                    x.lost(9, 0), x.heard(5, 0), x.saw(0, 0, 2), x.odds(9, 0, 0), x.hacks(9), x.rests(-1), x.years(0, 0), x.count(11),
                    x.sheet(4, 0, 0, 0)};
                for (int i = 0; i < answers.length; i++) {
                    c.due("refused call " + i, answers[i], -1);
                }
                c.due("end(81)", x.end(81), false);
                c.due("keep(2)", x.keep(2), false);
                c.due("again(0)", x.again(0), false);
                c.dueState("refused calls", x, state);
                c.dueRow("refused calls", x, 4);
                c.due("rule()", Check.say(x, "1+").rule(), -3);
                c.due("signs behind rule()", x.count(10), 0);
                c.due("place()", Check.say(x, "ax").place(), -2);
                c.due("signs behind place()", x.count(10), 0);
                c.due("day()", Check.say(x, "ma").day(), -3);
                c.due("signs behind day()", x.count(10), 0);
                c.due("law()", Check.say(x, "1+").law(0, 0), -10002);
                c.due("signs behind law()", x.count(10), 0);
                c.dueState("refused texts", x, state);
                c.dueRow("refused texts", x, 4);
                c.due("the rule stays", x.would(1, 0), 1);
                dueText(c, x);
            });
        e.edge(Edges.TERMS, "NONE comes ahead of other answers below 0, if not said otherwise;", c -> {
            MountPeers x = Worlds.after("ma.mb.mba.k1a.");
            c.due("binds() of none such where something is", x.binds(9, 0, 0), -1);
            c.due("trees() of none such where something is", x.trees(9, 0, 0), -1);
            c.due("trees() of none such in one with a group", x.trees(9, 1, 0), -1);
            c.due("moves() of none such where something is", x.moves(9, 0, 0), -1);
            c.due("moves() of ROOT to none such", x.moves(0, 9, 0), -1);
            c.due("makes() of none such, 2", x.makes(9, 2), -1);
            c.due("keepers() of one that is none such", x.keepers(9, 9), -1);
            c.due("sheet() of another kind, n below 0", x.sheet(4, -1, 0, 0), -1);
            x.makes(3, 3);
            c.due("binds() of an unbindable one in none such", x.binds(3, 9, 0), -1);
            c.due("binds() of an unbindable one at no such dir", x.binds(3, 0, 4), -1);
            c.due("trees() of an unbindable one in none such", x.trees(3, 9, 0), -1);
            MountPeers y = Worlds.line(23);
            c.due("mounts() in none such of a full one", y.mounts(24, 0), -1);
            c.due("mounts() at no such dir of a full one", y.mounts(23, 4), -1);
            c.due("would()", y.would(23, 4), -1);
        });
        e.edge(Edges.TERMS,
            "the ROW stays with each answer that tells of a refusal or that there is none, and with calls that do not tell of it.", c -> {
                MountPeers x = new MountPeers();
                x.inside(0);
                c.due("largest() of ROOT alone", x.largest(), -2);
                c.dueRow("largest()", x, 0, 0);
                c.due("unmounts()", x.unmounts(0, 0), -2);
                c.due("lost()", x.lost(0, 0), -2);
                c.due("keepers()", x.keepers(0, 0), -2);
                c.dueRow("those that answer -2", x, 0, 0);
                x.heard(0, 1);
                c.due("asks() of none that fits", x.asks(), -2);
                x.saw(9, 4, 1);
                c.due("looks() of none that fits", x.looks(), -2);
                c.dueRow("asks(), looks()", x, 0, 0);
                x.forget();
                x.denies();
                x.keep(0);
                x.makes(0, 1);
                x.undo();
                x.again(0);
                x.sheet(2, 1, 1, 0);
                x.sheet(2, -1, 1, 0);
                x.sheet(3, 1, 1, 0);
                x.sign(0);
                x.end(0);
                x.rule();
                x.mount(0, 0);
                x.at(0, 0);
                x.count(0);
                c.dueRow("calls that do not tell of it", x, 0, 0);
                MountPeers y = Worlds.line(23);
                y.inside(0);
                c.due("widest() of a full one", y.widest(), -2);
                c.due("-9", y.mounts(23, 0), -9);
                c.due("-9 of would()", y.would(23, 0), -9);
                y.moves(23, 0, 1);
                c.dueRow("widest(), -9, moves()", y, 23, 23);
            });
        e.edge(Edges.TERMS, "-9: there would be more than 24 MOUNTS (asked behind all others; nothing changes).", c -> {
            MountPeers x = Worlds.line(22);
            c.due("the 24th", x.mounts(22, 0), 23);
            String state = Check.stateOf(x);
            c.due("the 25th", x.mounts(23, 0), -9);
            c.due("binds()", x.binds(1, 23, 0), -9);
            c.due("trees()", x.trees(23, 23, 0), -9);
            c.due("would()", x.would(23, 0), -9);
            c.due("something is there", x.mounts(0, 0), -2);
            c.dueState("-9", x, state);
            x.makes(5, 3);
            x.makes(22, 1);
            c.due("unbindable ahead of it: binds()", x.binds(5, 23, 0), -3);
            c.due("unbindable ahead of it: trees()", x.trees(5, 23, 0), -3);
            c.due("a group ahead of it: trees()", x.trees(1, 22, 1), -4);
            MountPeers y = Worlds.after("ma.k1a.ba:b.ba:c.md.");
            for (int m = 4; y.count(0) != (1 << 22) - 1; m++) {
                y.mounts(m, 0);
            }
            String before = Check.stateOf(y);
            c.due("22 and three", y.mounts(1, 0), -9);
            c.due("22 and three, would()", y.would(2, 0), -9);
            c.dueState("22 and three", y, before);
            Worlds.ruled(y, "i=2");
            c.due("22 and two", y.mounts(1, 0), 22);
            c.dueRow("22 and two", y, 2, 3 << 22);
        });
    }

    private static void laws(Edges e) {
        e.edge(Edges.TERMS, "laws of copies (a 0 .. 6, b 0 .. 4: a copy comes, if it is a steps or fewer from ROOT to the MOUNT,"
            + " and it is PARENT of b or more).", c -> {
                for (int n = 0; n <= 9; n++) {
                    for (int k = 0; k <= 4; k++) {
                        MountPeers x = new MountPeers();
                        x.saw(n, k, 1);
                        int due = n > 6 ? 0 : (7 - n) * (k + 1);
                        c.due("laws by which a copy comes to n " + n + ", k " + k, x.laws(), due);
                        x.denies();
                        x.saw(n, k, 0);
                        c.due("laws by which none comes", x.laws(), 35 - due);
                    }
                }
            });
    }
}

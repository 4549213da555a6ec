/** Promises 15 and 16: days, and what is undone. */
final class DayEdges {
    private DayEdges() {
    }

    static void tell(Edges e) {
        acts(e);
        done(e);
        wrong(e);
        undo(e);
        undone(e);
    }

    private static void acts(Edges e) {
        e.edge(15, "THE TEXT tells A DAY (an empty one: nothing), ACTS one behind another, each ended by a full stop:", c -> {
            MountPeers x = new MountPeers();
            c.due("nothing", x.day(), 0);
            c.dueRow("nothing", x, 0, 1);
            c.due("nothing to undo", x.count(8), 0);
            c.due("two", Worlds.day(x, "ma.mb."), 2);
            c.due("signs behind it", x.count(10), 0);
            c.due("without a full stop", Worlds.day(x, "mc"), -3);
            c.due("with two of them", Worlds.day(x, "mc.."), -4);
            c.due("a full stop alone", Worlds.day(x, "."), -1);
            c.due("nothing of these", x.count(0), 7);
        });
        e.edge(15, "m and a PATH (mounts()),", c -> {
            MountPeers x = Worlds.peers();
            c.due("mad", Worlds.day(x, "mad."), 1);
            c.due("it came in 1", x.at(1, 3), 3);
            c.due("and in 2", x.at(2, 3), 4);
            c.due("m: and two", Worlds.day(x, "ma:b."), -3);
        });
        e.edge(15, "b, a PATH, : and a PATH (binds() of what is mounted at the first),", c -> {
            MountPeers x = Worlds.peers();
            c.due("bb:c", Worlds.day(x, "bb:c."), 1);
            c.due("a peer of 2", x.mount(3, 2), 1);
            c.due("b and one", Worlds.day(x, "ba."), -3);
            c.due("b and an empty one", Worlds.day(x, "b:a."), -2);
            c.due("b and an empty second one", Worlds.day(x, "ba:."), -4);
            c.due("b and three", Worlds.day(x, "ba:b:c."), -5);
        });
        e.edge(15, "r, likewise (trees()),", c -> {
            MountPeers x = Worlds.after("ma.maa.");
            c.due("ra:b", Worlds.day(x, "ra:b."), 1);
            c.due("with what is in it", x.inside(3), 16);
            c.due("r and one", Worlds.day(x, "ra."), -3);
        });
        e.edge(15, "u and a PATH (unmounts()),", c -> {
            MountPeers x = Worlds.after("ma.maa.");
            c.due("uaa", Worlds.day(x, "uaa."), 1);
            c.due("2 went", x.count(0), 3);
            c.due("u and none", Worlds.day(x, "u."), -2);
            c.due("u and two", Worlds.day(x, "ua:b."), -3);
        });
        e.edge(15, "v, a PATH, : and a PATH (moves() of what is mounted at the first),", c -> {
            MountPeers x = Worlds.after("ma.maa.");
            c.due("vaa:d", Worlds.day(x, "vaa:d."), 1);
            c.due("2 is at d", x.at(0, 3), 2);
            c.due("v and one", Worlds.day(x, "va."), -3);
        });
        e.edge(15, "k, a digit 0 .. 3 and a PATH (makes() of what is mounted there):", c -> {
            MountPeers x = Worlds.after("ma.mb.");
            int[] kinds = {0, 1, 0, 3};
            for (int v = 0; v <= 3; v++) {
                c.due("k" + v + "a", Worlds.day(x, "k" + v + "a."), 1);
                c.due("kind of 1", x.mount(1, 4), kinds[v]);
            }
            c.due("k4a", Worlds.day(x, "k4a."), -2);
            c.due("k9a", Worlds.day(x, "k9a."), -2);
            c.due("the sign ahead of 0", Worlds.day(x, "k/a."), -2);
            c.due("ka", Worlds.day(x, "ka."), -2);
            c.due("k1", Worlds.day(x, "k1."), -3);
            c.due("k11a", Worlds.day(x, "k11a."), -3);
            c.due("k1a:b", Worlds.day(x, "k1a:b."), -4);
        });
    }

    /** A day whose first act is done, the second can't be, and the third is not asked. */
    private static void stops(Check c, String before, String act) {
        MountPeers x = before.isEmpty() ? new MountPeers() : Worlds.after(before);
        int there = Integer.bitCount(x.count(0));
        int acts = x.count(4);
        c.due("k0.., " + act, Worlds.day(x, "md." + act + "mdd."), 1);
        c.dueRow("it stops at " + act, x, 1, there + 1);
        c.due("acts", x.count(4), acts + 1);
        c.due("the third is not done", x.at(x.at(0, 3), 3), 24);
    }

    private static void done(Edges e) {
        e.edge(15, "they are done one by one, till one can't be (it answers below 0,", c -> {
            stops(c, "", "md.");
            stops(c, "", "ua.");
            stops(c, "ma.maa.", "ua.");
            stops(c, "ma.", "k2a.");
            stops(c, "ma.k3a.", "ba:b.");
            stops(c, "ma.k3a.", "ra:b.");
            stops(c, "ma.k1a.", "ra:aa.");
            stops(c, "ma.", "va:a.");
            stops(c, "ma.", "va:ab.");
            stops(c, "ma.maa.k1a.", "vaa:b.");
            stops(c, "ma.k1a.mb.", "vb:ab.");
            MountPeers x = Worlds.line(22);
            c.due("the 24th, and one too many", Worlds.day(x, "mb.mc.md."), 1);
            c.dueRow("one too many", x, 1, 24);
        });
        e.edge(15, "or a PATH, as all is then, has a letter behind one at whose PLACE nothing is,", c -> {
            stops(c, "", "maa.");
            stops(c, "", "uaa.");
            stops(c, "", "k0aa.");
            stops(c, "", "baa:b.");
            stops(c, "ma.", "ba:ba.");
            stops(c, "", "raa:b.");
            stops(c, "ma.", "ra:ba.");
            stops(c, "", "vaa:b.");
            stops(c, "ma.", "va:ba.");
            MountPeers x = new MountPeers();
            c.due("as all is then: a is there when aa is asked", Worlds.day(x, "ma.maa.va:b.mba.mbb."), 3);
            c.dueRow("bb would be there, but ba is taken", x, 1, 3);
            c.due("nothing is at a any more", Worlds.day(x, "mbb.maa."), 1);
        });
        e.edge(15, "or nothing is mounted where something has to be):", c -> {
            stops(c, "", "k0a.");
            stops(c, "", "k1a.");
            stops(c, "", "k2a.");
            stops(c, "", "k3a.");
            stops(c, "", "ba:b.");
            stops(c, "", "ra:b.");
            stops(c, "", "va:b.");
            stops(c, "", "ua.");
        });
        e.edge(15, "how many were done; the ROW: 1 if one could not be, else 0; how many MOUNTS are there then.", c -> {
            MountPeers x = new MountPeers();
            c.due("all of three", Worlds.day(x, "ma.k1a.ba:b."), 3);
            c.dueRow("all of three", x, 0, 3);
            c.due("none of two", Worlds.day(x, "ma.mc."), 0);
            c.dueRow("none of two", x, 1, 3);
            c.due("the last one can't be", Worlds.day(x, "mc.mc."), 1);
            c.dueRow("the last one can't be", x, 1, 4);
            c.due("24 in 72 signs", Worlds.day(x, "md.ud.".repeat(12)), 24);
            c.dueRow("24 in 72 signs", x, 0, 4);
        });
    }

    private static void dueDay(Check c, String text, int answer) {
        MountPeers x = Worlds.peers();
        x.spread(1);
        String state = Check.stateOf(x);
        c.due("day() of " + text, Worlds.day(x, text), answer);
        c.due("signs behind it", x.count(10), 0);
        c.dueState("day() of " + text, x, state);
        c.dueRow("day() of " + text, x, 2);
    }

    private static void wrong(Edges e) {
        e.edge(15, "-1 - p: the sign at p can't stand there", c -> {
            for (String act : new String[] {"a", "x", "M", ".", ":", "1", " ", "" + (char) 0, "" + (char) 255, "`", "l"}) {
                dueDay(c, act, -1);
                dueDay(c, "mc." + act + "a.", -4);
            }
            for (String sign : new String[] {"e", "`", "A", ":", ".", " ", "0", "m", "" + (char) 0}) {
                dueDay(c, "m" + sign, -2);
                dueDay(c, "b" + sign, -2);
                dueDay(c, "r" + sign, -2);
                dueDay(c, "u" + sign, -2);
                dueDay(c, "v" + sign, -2);
                dueDay(c, "k0" + sign, -3);
                dueDay(c, "ba:" + sign, -4);
            }
            for (char sign = 0; sign < 256; sign++) {
                boolean letter = sign >= 'a' && sign <= 'd';
                dueDay(c, "" + sign, "mubrvk".indexOf(sign) >= 0 ? -2 : -1);
                dueDay(c, "k" + sign, sign >= '0' && sign <= '3' ? -3 : -2);
                dueDay(c, "m" + sign, letter ? -3 : -2);
                dueDay(c, "ba" + sign, letter || sign == ':' ? -4 : -3);
                if (sign != '.') {
                    dueDay(c, "ma" + sign, letter ? -4 : -3);
                    dueDay(c, "va:b" + sign, letter ? -6 : -5);
                }
            }
            dueDay(c, "ma:", -3);
            dueDay(c, "mae", -3);
            dueDay(c, "ba.", -3);
            dueDay(c, "ba:b:", -5);
            dueDay(c, "k1a:", -4);
        });
        e.edge(15, "(its end, if it ends too early;", c -> {
            for (String text : new String[] {"m", "b", "r", "u", "v", "k", "k0", "ma", "k0a", "ba", "ba:", "ba:b", "mc.m", "mc.md.k3ab"}) {
                dueDay(c, text, -1 - text.length());
            }
            dueDay(c, "mc.".repeat(23) + "mcd", -73);
        });
        e.edge(15, "a thirteenth letter of a PATH;", c -> {
            String twelve = "abcdabcdabcd";
            for (String act : new String[] {"m", "u", "b", "r", "v", "k0"}) {
                dueDay(c, act + twelve + "a.", -1 - act.length() - 12);
            }
            for (String act : new String[] {"b", "r", "v"}) {
                dueDay(c, act + "a:" + twelve + "a.", -1 - act.length() - 14);
                dueDay(c, act + twelve + ":" + twelve + "a", -1 - act.length() - 25);
            }
            MountPeers x = Worlds.line(12);
            c.due("a twelfth", Worlds.day(x, "u" + "a".repeat(12) + ".m" + "a".repeat(12) + "."), 2);
            c.due("twelve and twelve", Worlds.day(x, "b" + "a".repeat(12) + ":" + "a".repeat(11) + "b."), 1);
        });
        e.edge(15, "72, if it has more and the first 72 could go on or end);", c -> {
            dueDay(c, "mc.".repeat(24) + "m", -73);
            dueDay(c, "mc.".repeat(24) + "x", -73);
            dueDay(c, "mc.".repeat(26), -73);
            dueDay(c, "mcd.".repeat(20), -73);
            dueDay(c, "mc.".repeat(23) + "mcdd.", -73);
            dueDay(c, "mc.".repeat(23) + "mxx.", -71);
            dueDay(c, "mc.".repeat(23) + "mcx.", -72);
            dueDay(c, "x".repeat(80), -1);
            MountPeers x = new MountPeers();
            c.due("72 signs", Worlds.day(x, "mc.".repeat(24)), 1);
        });
        e.edge(15, "nothing is done then.", c -> {
            dueDay(c, "mc.md.x", -7);
            dueDay(c, "mc.md.m", -8);
            dueDay(c, "k0a.k0b.k4a.", -10);
        });
    }

    private static void undo(Edges e) {
        e.edge(16, "The latest mounts(), binds(), trees(), makes(), unmounts(), moves(), day()", c -> {
            MountPeers x = Worlds.after("ma.mb.mba.k1a.ba:c.");
            String state = Check.stateOf(x);
            Runnable[] acts = {() -> x.mounts(1, 0), () -> x.binds(1, 0, 3), () -> x.trees(2, 0, 3), () -> x.makes(1, 3),
                () -> x.unmounts(2, 0), () -> x.moves(3, 0, 3), () -> Worlds.day(x, "md.k1d.mdd.")};
            for (int i = 0; i < acts.length; i++) {
                acts[i].run();
                c.due("act " + i + " can be undone", x.count(8), 2);
                c.due("undo() of act " + i, x.undo(), 1);
                c.dueState("undo() of act " + i, x, state);
            }
            for (int i = 0; i < acts.length; i++) {
                x.makes(0, 1);
                x.makes(0, 0);
                String before = Check.stateOf(x);
                acts[i].run();
                x.undo();
                c.dueState("act " + i + " behind another", x, before);
                x.undo();
                x.undo();
            }
            x.mounts(0, 3);
            x.makes(0, 1);
            c.due("the latest first", x.undo(), 2);
            c.due("mounts() stands still", x.at(0, 3), 5);
        });
        e.edge(16, "(of 12 that are kept, the latest ones;", c -> {
            MountPeers x = new MountPeers();
            for (int i = 1; i <= 14; i++) {
                x.makes(0, i % 2);
                c.due("behind " + i, x.count(8), Math.min(i, 12));
            }
            for (int left = 11; left >= 0; left--) {
                c.due("undo()", x.undo(), left);
            }
            c.due("acts ahead of the twelve", x.count(4), 2);
            c.due("the next group ahead of them", x.count(5), 2);
            c.due("none", x.undo(), -1);
            c.due("acts behind that", x.count(4), 2);
            for (int i = 1; i <= 12; i++) {
                x.makes(0, 1);
            }
            c.due("twelve again", x.count(8), 12);
            x.undo();
            x.undo();
            x.makes(0, 3);
            c.due("two undone, one done", x.count(8), 11);
            c.due("acts", x.count(4), 13);
        });
        e.edge(16, "such as were done;", c -> {
            MountPeers x = Worlds.after("ma.");
            x.mounts(0, 0);
            x.binds(9, 0, 1);
            x.trees(1, 0, 0);
            x.makes(1, 2);
            x.makes(1, 4);
            x.unmounts(0, 1);
            x.moves(0, 1, 0);
            Worlds.day(x, "x");
            c.due("refused ones are not kept", x.count(8), 1);
            x.makes(1, 0);
            c.due("one that was done, though nothing changed", x.count(8), 2);
            x.sheet(2, 1, 1, 0);
            x.keep(0);
            x.heard(0, 0);
            Worlds.ruled(x, "0");
            c.due("other calls are not kept", x.count(8), 2);
        });
        e.edge(16, "day() of which one ACT was done, as one)", c -> {
            MountPeers x = new MountPeers();
            Worlds.day(x, "");
            c.due("an empty one", x.count(8), 0);
            Worlds.day(x, "ua.ma.");
            c.due("one of which none was done", x.count(8), 0);
            Worlds.day(x, "ma.ma.");
            c.due("one of which one was done", x.count(8), 1);
            Worlds.day(x, "mb.mc.md.");
            c.due("one of which three were done", x.count(8), 2);
            c.due("undo() of three", x.undo(), 1);
            c.due("mounts", x.count(0), 3);
            c.due("undo() of one", x.undo(), 0);
            c.due("mounts then", x.count(0), 1);
        });
    }

    private static void undone(Edges e) {
        e.edge(16, "is undone (MOUNTS, their PLACES, GROUPS, MASTERS, KINDS, ACTS, and the next number of a new GROUP are as ahead of it):", c -> {
            MountPeers x = Worlds.longChain();
            x.makes(0, 3);
            x.heard(0, 1);
            x.saw(1, 1, 1);
            String state = Check.stateOf(x);
            c.due("acts that change all of these", Worlds.day(x, "k1a.k0b.mab.k0c.k1d.vc:bb."), 6);
            x.spread(1);
            x.sign(0x61626364);
            c.due("undo()", x.undo(), 2);
            c.dueState("undo()", x, state);
            c.dueRow("the row stays", x, 2);
            c.due("the text stays", x.count(10), 4);
            c.due("what was heard stays", x.count(6), 1);
            c.due("what was seen stays", x.count(7), 1);
            Worlds.ruled(x, "0");
            c.due("undo() of makes()", x.undo(), 1);
            c.due("the rule stays", x.would(1, 0), 1);
            c.due("kind of ROOT", x.mount(0, 4), 0);
        });
        e.edge(16, "how many are left that can be.", c -> {
            MountPeers x = Worlds.line(3);
            c.due("two", x.undo(), 2);
            c.due("one", x.undo(), 1);
            c.due("none", x.undo(), 0);
        });
        e.edge(16, "Refused: none.", c -> {
            MountPeers x = new MountPeers();
            c.due("nothing was done", x.undo(), -1);
            x.mounts(0, 0);
            x.undo();
            c.due("it was undone", x.undo(), -1);
            c.due("nothing changes", x.count(0), 1);
        });
        e.edge(16, "(again() forgets them, if it is not refused.)", c -> {
            MountPeers x = Worlds.line(3);
            c.due("refused", x.again(0), false);
            c.due("all three can be undone", x.count(8), 3);
            x.keep(0);
            c.due("all three behind keep()", x.count(8), 3);
            c.due("again(1), nothing kept there", x.again(1), false);
            c.due("all three can be undone still", x.count(8), 3);
            c.due("again(0)", x.again(0), true);
            c.due("none", x.count(8), 0);
            c.due("undo()", x.undo(), -1);
            c.due("it stands as kept", x.count(0), 15);
        });
    }
}

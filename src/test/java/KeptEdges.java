/** Promises 42 to 45: keep, again, count, row. */
final class KeptEdges {
    private static final int[] NO_NUMBERS = {-1, 2, 3, 32, 33, -32, Integer.MAX_VALUE, Integer.MIN_VALUE};

    private KeptEdges() {
    }

    static void tell(Edges e) {
        keep(e);
        again(e);
        count(e);
        row(e);
    }

    private static void keep(Edges e) {
        e.edge(42, "What undo() brings back is kept under a number 0 .. 1: true.", c -> {
            MountPeers x = Worlds.longChain();
            x.makes(0, 3);
            x.inside(0);
            String state = Check.stateOf(x);
            c.due("keep(0)", x.keep(0), true);
            c.due("keep(1)", x.keep(1), true);
            c.dueState("keep()", x, state);
            c.dueRow("keep()", x, 4, 1);
            x.makes(1, 0);
            x.keep(1);
            x.makes(3, 0);
            c.due("again(0)", x.again(0), true);
            c.due("kind of 1, as kept first", x.mount(1, 4), 1);
            c.due("again(1)", x.again(1), true);
            c.due("kind of 1, as kept then", x.mount(1, 4), 0);
            c.due("kind of 3, as kept then", x.mount(3, 4), 4);
        });
        e.edge(42, "Refused: others.", c -> {
            MountPeers x = new MountPeers();
            for (int i : NO_NUMBERS) {
                c.due("keep(" + i + ")", x.keep(i), false);
                c.due("again(" + i + ")", x.again(i), false);
            }
            c.due("nothing kept under 0", x.again(0), false);
            c.due("nothing kept under 1", x.again(1), false);
        });
    }

    private static void again(Edges e) {
        e.edge(43, "It is as it was kept under a number.", c -> {
            MountPeers x = Worlds.longChain();
            x.sheet(2, 1, 1, 0);
            x.keep(0);
            int[] counts = new int[6];
            for (int what = 0; what < 6; what++) {
                counts[what] = x.count(what);
            }
            Worlds.day(x, "k0a.k0b.k0c.mab.va:cc.");
            x.sheet(3, 0, 0, 0);
            x.heard(0, 0);
            x.saw(0, 0, 0);
            Worlds.ruled(x, "0");
            x.inside(0);
            x.sign(0);
            for (int time = 0; time < 2; time++) {
                c.due("again(0)", x.again(0), true);
                for (int what = 0; what < 6; what++) {
                    c.due("count(" + what + ")", x.count(what), counts[what]);
                }
                c.due("place, group and master of 3", x.mount(3, 0) * 1000 + x.mount(3, 1) * 100 + x.mount(3, 2) * 10 + x.mount(3, 3), 221);
                c.due("nothing to undo", x.count(8), 0);
                x.makes(3, 0);
            }
            c.due("what was heard stays", x.count(6), 1);
            c.due("what was seen stays", x.count(7), 1);
            c.due("the rule stays", x.would(1, 0), 1);
            c.due("the text stays", x.count(10), 4);
            x.undo();
            c.due("what was done behind it can be undone", x.mount(3, 4), 4);
        });
        e.edge(43, "Refused: nothing kept.", c -> {
            MountPeers x = Worlds.line(2);
            String state = Check.stateOf(x);
            for (int i : NO_NUMBERS) {
                c.due("again(" + i + ")", x.again(i), false);
            }
            c.due("again(0)", x.again(0), false);
            c.due("again(1)", x.again(1), false);
            x.keep(1);
            c.due("again(0), when 1 is kept", x.again(0), false);
            c.dueState("refused ones", x, state);
        });
    }

    private static void dueCount(Check c, MountPeers x, int what, int due) {
        c.due("count(" + what + ")", x.count(what), due);
    }

    private static void count(Edges e) {
        e.edge(44, "What 0: MOUNTS (bits), 1: those with a GROUP (bits), 2: those with a MASTER (bits),"
            + " 3: those that are UNBINDABLE (bits),", c -> {
                MountPeers x = new MountPeers();
                dueCount(c, x, 0, 1);
                dueCount(c, x, 1, 0);
                dueCount(c, x, 2, 0);
                dueCount(c, x, 3, 0);
                x = Worlds.longChain();
                x.makes(0, 3);
                dueCount(c, x, 0, 31);
                dueCount(c, x, 1, 2 | 4 | 8);
                dueCount(c, x, 2, 8 | 16);
                dueCount(c, x, 3, 1);
                x.unmounts(0, 1);
                dueCount(c, x, 0, 1 | 2 | 8 | 16);
                dueCount(c, x, 1, 2 | 8);
                MountPeers y = Worlds.crowd(23);
                dueCount(c, y, 0, 0xFFFFFF);
                dueCount(c, y, 1, 0xFFFFFF);
            });
        e.edge(44, "4: ACTS, 5: the next number of a new GROUP,", c -> {
            MountPeers x = Worlds.longChain();
            dueCount(c, x, 4, 8);
            dueCount(c, x, 5, 3);
            x.undo();
            dueCount(c, x, 4, 0);
            dueCount(c, x, 5, 1);
        });
        e.edge(44, "6: what was heard, 7: what was seen, 8: what can be undone, 9: numbers of the ROW, 10: signs of THE TEXT.", c -> {
            MountPeers x = Worlds.line(3);
            x.heard(0, 0);
            x.heard(0, 0);
            for (int i = 0; i < 4; i++) {
                x.saw(0, 0, 0);
            }
            x.sign(0);
            x.sign(0);
            x.end(7);
            x.spread(0);
            dueCount(c, x, 6, 2);
            dueCount(c, x, 7, 4);
            dueCount(c, x, 8, 3);
            dueCount(c, x, 9, 1);
            dueCount(c, x, 10, 7);
            x.path(0);
            dueCount(c, x, 9, 0);
        });
        e.edge(44, "NONE for another what.", c -> {
            MountPeers x = Worlds.line(3);
            for (int what : new int[] {-1, 11, 12, Integer.MAX_VALUE, Integer.MIN_VALUE}) {
                dueCount(c, x, what, -1);
            }
        });
    }

    private static void row(Edges e) {
        e.edge(45, "Number i of the ROW.", c -> {
            MountPeers x = Worlds.after("mb.mbd.mbdc.");
            x.path(3);
            c.due("row(0)", x.row(0), 1);
            c.due("row(1)", x.row(1), 3);
            c.due("row(2)", x.row(2), 2);
            c.due("row(0) once more", x.row(0), 1);
            MountPeers y = Worlds.crowd(16);
            y.odds(0, 16, 1);
            c.due("a long number", y.row(1), 10000000000000000L);
        });
        e.edge(45, "NoSuchElementException: none such.", c -> {
            MountPeers x = Worlds.after("mb.mbd.mbdc.");
            x.path(3);
            for (int i : new int[] {3, 4, 23, 24, -1, Integer.MAX_VALUE, Integer.MIN_VALUE}) {
                c.dueNone("row(" + i + ")", () -> x.row(i));
            }
            x.path(1);
            c.dueNone("row(1), that was there ahead of it", () -> x.row(1));
            x.path(0);
            c.dueNone("row(0) of an empty one", () -> x.row(0));
            c.dueNone("row(0) of a new object", () -> new MountPeers().row(0));
        });
    }
}

/** Promises 1 to 8: a new object, texts, rules, paths, what is told of a mount, sheets. */
final class TextEdges {
    private TextEdges() {
    }

    static void tell(Edges e) {
        newObject(e);
        sign(e);
        end(e);
        rule(e);
        place(e);
        placeWrong(e);
        mount(e);
        at(e);
        sheet(e);
        sheetEntries(e);
        sheetRefused(e);
    }

    private static void newObject(Edges e) {
        e.edge(1, "ROOT alone.", c -> {
            MountPeers x = new MountPeers();
            c.due("mounts", x.count(0), 1);
            for (int what : new int[] {1, 2, 3, 4, 6, 7, 8, 9, 10}) {
                c.due("count(" + what + ")", x.count(what), 0);
            }
            c.due("the next group", x.count(5), 1);
            for (int d = 0; d < 4; d++) {
                c.due("at(0, " + d + ")", x.at(0, d), 24);
            }
            c.due("nothing to undo", x.undo(), -1);
            c.due("nothing kept", x.again(0) || x.again(1), false);
            x.mounts(0, 0);
            c.due("another object", new MountPeers().count(0), 1);
        });
    }

    private static void sign(Edges e) {
        e.edge(2, "Four signs come behind THE TEXT, of v the highest byte first: how many it has.", c -> {
            MountPeers x = Worlds.after("ma.mab.mabc.");
            c.due("abcd", x.sign('a' << 24 | 'b' << 16 | 'c' << 8 | 'd'), 4);
            c.due("place() of it", x.place(), 303);
            c.due("four signs 255", x.sign(-1), 4);
            c.due("four more", x.sign(0), 8);
            c.due("the first sign is 255, not 0", x.rule(), -1);
            x.sign('1' << 24 | '+' << 16 | '1' << 8 | 200);
            c.due("a sign above 127 can't stand in a rule", x.rule(), -4);
            x.sign(Integer.MIN_VALUE);
            c.due("128, then three of 0", x.place(), -1);
        });
        e.edge(2, "Refused: there would be more than 80.", c -> {
            MountPeers x = new MountPeers();
            for (int i = 1; i <= 20; i++) {
                c.due("sign " + i, x.sign('-' * 0x01010101), 4 * i);
            }
            c.due("beyond 80", x.sign(0), -1);
            for (int n = 79; n >= 77; n--) {
                x.end(n);
                c.due("there are " + n, x.sign(0), -1);
                c.due("a refused one adds nothing", x.count(10), n);
            }
            c.due("what was there stays", x.rule(), -41);
            MountPeers y = new MountPeers();
            for (int i = 1; i <= 19; i++) {
                y.sign(0);
            }
            c.due("there are 76", y.sign(0), 80);
        });
    }

    private static void end(Edges e) {
        e.edge(3, "THE TEXT has its first n signs alone: true;", c -> {
            MountPeers x = Worlds.after("ma.");
            x.sign('a' << 24 | 'b' << 16 | 'c' << 8 | 'd');
            c.due("all of four", x.end(4), true);
            c.due("two of four", x.end(2), true);
            c.due("signs", x.count(10), 2);
            c.due("it is ab", x.place(), 101);
            c.due("none of none", x.end(0), true);
            x.sign(-1);
            c.due("none of four", x.end(0), true);
            c.due("signs then", x.count(10), 0);
        });
        e.edge(3, "false if it has not so many, or n is below 0.", c -> {
            MountPeers x = new MountPeers();
            c.due("one of none", x.end(1), false);
            x.sign(0);
            x.end(3);
            c.due("four of three", x.end(4), false);
            c.due("as many as there can be", x.end(80), false);
            c.due("-1", x.end(-1), false);
            c.due("the least int", x.end(Integer.MIN_VALUE), false);
            c.due("the largest int", x.end(Integer.MAX_VALUE), false);
            c.due("three stay", x.count(10), 3);
        });
    }

    private static void dueRule(Check c, String text, int answer) {
        MountPeers x = Check.say(new MountPeers(), text);
        c.due("rule() of " + text, x.rule(), answer);
        c.due("signs behind it", x.count(10), 0);
        c.due("a text that breaks off in all", Check.say(x, "1+((((1<-11").rule(), -12);
        c.due("rule() behind that of " + text, Check.say(x, text).rule(), answer);
    }

    private static void rule(Edges e) {
        e.edge(4, "THE TEXT is THE RULE (an empty one: none): 0.", c -> {
            MountPeers x = Worlds.peers();
            c.due("0", Check.say(x, "0").rule(), 0);
            c.due("by 0", x.would(1, 0), 1);
            c.due("none", x.rule(), 0);
            c.due("by none", x.would(1, 0), 2);
            c.due("it is told again", Check.say(x, "0").rule(), 0);
            c.due("a wrong one", Check.say(x, "1+").rule(), -3);
            c.due("the one that was stays", x.would(1, 0), 1);
        });
        e.edge(4, "-1 - p: the sign at p can't stand there", c -> {
            for (String first : new String[] {"+", "*", "/", "<", ">", "=", ")", " ", "a", "N", "~", ":", "?", ",", "" + (char) 0, "" + (char) 255}) {
                dueRule(c, first, -1);
                dueRule(c, first + "1", -1);
                dueRule(c, "1+" + first, -3);
            }
            for (String behind : new String[] {"n", "k", "(", "a", " ", "~", ":", "?", ",", "" + (char) 0, "" + (char) 200}) {
                dueRule(c, "1" + behind, -2);
                dueRule(c, "n" + behind, -2);
                dueRule(c, "(1)" + behind, -4);
            }
            for (char sign = 0; sign < 256; sign++) {
                boolean thing = "0123456789nkgidwq".indexOf(sign) >= 0;
                dueRule(c, "" + sign, thing ? 0 : "(-".indexOf(sign) >= 0 ? -2 : -1);
                dueRule(c, "n" + sign, "<>=+-*/".indexOf(sign) >= 0 ? -3 : -2);
                dueRule(c, "1" + sign, "<>=+-*/".indexOf(sign) >= 0 ? -3 : sign >= '0' && sign <= '9' ? 0 : -2);
                dueRule(c, "(k" + sign, ")".indexOf(sign) >= 0 ? 0 : "<>=+-*/".indexOf(sign) >= 0 ? -4 : -3);
            }
            dueRule(c, "n1", -2);
            dueRule(c, "(1)1", -4);
            dueRule(c, "1)", -2);
            dueRule(c, "(1))", -4);
            dueRule(c, "1+1)", -4);
            dueRule(c, "-1)", -3);
            dueRule(c, "(1)+1)", -6);
            dueRule(c, "1234", -4);
            dueRule(c, "(((((", -5);
            dueRule(c, "1<1<1", -4);
            dueRule(c, "(1<1>1", -5);
            dueRule(c, "-)", -2);
        });
        e.edge(4, "(its end, if it ends too early;", c -> {
            dueRule(c, "-", -2);
            dueRule(c, "1+", -3);
            dueRule(c, "1*-", -4);
            dueRule(c, "1<", -3);
            dueRule(c, "(", -2);
            dueRule(c, "(1", -3);
            dueRule(c, "((1)", -5);
            dueRule(c, "-".repeat(40), -41);
            dueRule(c, "1+".repeat(20), -41);
            dueRule(c, "(" + "1+".repeat(19) + "1", -41);
        });
        e.edge(4, "40, if it has more and the first 40 could go on or end).", c -> {
            dueRule(c, "1+".repeat(19) + "11", 0);
            dueRule(c, "1+".repeat(19) + "11+1", -41);
            dueRule(c, "1+".repeat(19) + "11~~", -41);
            dueRule(c, "1+".repeat(40), -41);
            dueRule(c, "-".repeat(80), -41);
            dueRule(c, "1+".repeat(19) + "1~11", -40);
            dueRule(c, "~".repeat(80), -1);
            dueRule(c, "((((" + "1+".repeat(18) + "1", -41);
        });
    }

    private static void place(Edges e) {
        e.edge(5, "THE TEXT is a PATH: 1 to 12 letters a .. d:", c -> {
            MountPeers x = Worlds.line(12);
            c.due("one", Check.say(x, "a").place(), 0);
            c.due("signs behind it", x.count(10), 0);
            c.due("twelve", Check.say(x, "a".repeat(12)).place(), 1100);
            c.dueRow("twelve", x, 12);
            c.due("d", Check.say(x, "aad").place(), 203);
            c.due("e", Check.say(x, "aae").place(), -3);
            c.due("the sign ahead of a", Check.say(x, "`").place(), -1);
            c.due("A", Check.say(x, "A").place(), -1);
            c.due("a sign 0", Check.say(x, "a" + (char) 0).place(), -2);
            c.due("a full stop", Check.say(x, "a.").place(), -2);
            for (char sign = 0; sign < 256; sign++) {
                boolean letter = sign >= 'a' && sign <= 'd';
                c.due("the sign " + (int) sign, Check.say(x, "" + sign).place(), letter ? sign - 'a' : -1);
                c.due("behind a the sign " + (int) sign, Check.say(x, "a" + sign).place(), letter ? 100 + sign - 'a' : -2);
            }
        });
        e.edge(5, "each is a DIR of the MOUNT where one is (at first ROOT);", c -> {
            MountPeers x = Worlds.after("mb.mbd.mbdc.");
            c.due("a of ROOT", Check.say(x, "a").place(), 0);
            c.due("c of 2", Check.say(x, "bdc").place(), 202);
        });
        e.edge(5, "behind each but the last one is in the MOUNT at that PLACE:", c -> {
            MountPeers x = Worlds.after("mb.mbd.");
            c.due("b", Check.say(x, "b").place(), 1);
            c.dueRow("b: one is in ROOT still", x, 1);
            c.due("bd", Check.say(x, "bd").place(), 103);
            c.due("bdb", Check.say(x, "bdb").place(), 201);
        });
        e.edge(5, "100 times the MOUNT and the DIR of the last one; the ROW: the MOUNT that is there (24: none).", c -> {
            MountPeers x = Worlds.line(23);
            x.moves(23, 11, 3);
            c.due("the twelfth", Check.say(x, "a".repeat(11) + "d").place(), 1103);
            c.dueRow("23 is there", x, 23);
            c.due("nothing is there", Check.say(x, "ab").place(), 101);
            c.dueRow("nothing is there", x, 24);
        });
    }

    private static void placeWrong(Edges e) {
        e.edge(5, "-1 - p: the sign at p can't stand there (its end for none;", c -> {
            MountPeers x = new MountPeers();
            x.spread(0);
            c.due("none", x.place(), -1);
            c.dueRow("the row stays", x, 1);
            c.due("a sign that is no letter", Check.say(x, "x").place(), -1);
            c.due("signs behind it", x.count(10), 0);
        });
        e.edge(5, "a thirteenth;", c -> {
            MountPeers x = Worlds.line(14);
            c.due("a letter", Check.say(x, "a".repeat(13)).place(), -13);
            c.due("another sign", Check.say(x, "a".repeat(12) + "x").place(), -13);
            c.due("80 of them", Check.say(x, "a".repeat(80)).place(), -13);
            c.due("signs behind it", x.count(10), 0);
            c.dueRow("the row stays", x, 1, 1 << 14);
        });
        e.edge(5, "a letter behind one at whose PLACE nothing is).", c -> {
            MountPeers x = Worlds.after("ma.");
            c.due("ba", Check.say(x, "ba").place(), -2);
            c.due("aba", Check.say(x, "aba").place(), -3);
            c.due("13 letters, the second of which can't", Check.say(x, "b".repeat(13)).place(), -2);
            c.due("of one that went", Check.say(Worlds.after("ma.maa.uaa."), "aaa").place(), -3);
        });
    }

    private static void mount(Edges e) {
        e.edge(6, "Of a MOUNT, what 0: PARENT (24: ROOT has none), 1: DIR (4: none),", c -> {
            MountPeers x = Worlds.after("md.mdc.");
            c.due("parent of ROOT", x.mount(0, 0), 24);
            c.due("dir of ROOT", x.mount(0, 1), 4);
            c.due("parent of 1", x.mount(1, 0), 0);
            c.due("dir of 1", x.mount(1, 1), 3);
            c.due("parent of 2", x.mount(2, 0), 1);
            c.due("dir of 2", x.mount(2, 1), 2);
        });
        e.edge(6, "2: GROUP, 3: MASTER, 4: KIND, 5: how many steps from ROOT.", c -> {
            MountPeers x = Worlds.after("ma.k1a.ba:b.k2b.k1b.mba.");
            c.due("group of 2", x.mount(2, 2), 2);
            c.due("master of 2", x.mount(2, 3), 1);
            c.due("kind of 2", x.mount(2, 4), 4);
            c.due("steps to 2", x.mount(2, 5), 1);
            c.due("steps to 3", x.mount(3, 5), 2);
            c.due("steps to ROOT", x.mount(0, 5), 0);
            c.due("group of ROOT", x.mount(0, 2), 0);
            c.due("master of ROOT", x.mount(0, 3), 0);
            c.due("steps to the farthest", Worlds.line(23).mount(23, 5), 23);
            c.due("group of ROOT, with one", Worlds.rootAsSlave().mount(0, 2), 2);
            c.due("master of ROOT, with one", Worlds.rootAsSlave().mount(0, 3), 1);
            c.due("kind of ROOT, with both", Worlds.rootAsSlave().mount(0, 4), 4);
        });
        e.edge(6, "NoSuchElementException: none such, another what.", c -> {
            MountPeers x = Worlds.after("ma.mb.ua.");
            for (int m : new int[] {1, 3, 23, 24, 25, 32, 34, 64, -1, -32, Integer.MAX_VALUE, Integer.MIN_VALUE}) {
                c.dueNone("mount(" + m + ", 0)", () -> x.mount(m, 0));
            }
            for (int what : new int[] {6, -1, Integer.MAX_VALUE, Integer.MIN_VALUE}) {
                c.dueNone("mount(0, " + what + ")", () -> x.mount(0, what));
                c.dueNone("mount(1, " + what + ")", () -> x.mount(1, what));
            }
        });
    }

    private static void at(Edges e) {
        e.edge(7, "The MOUNT at a DIR of a MOUNT (24: none).", c -> {
            MountPeers x = Worlds.after("md.mda.");
            c.due("at(0, 3)", x.at(0, 3), 1);
            c.due("at(1, 0)", x.at(1, 0), 2);
            c.due("at(0, 0)", x.at(0, 0), 24);
            c.due("at(2, 3)", x.at(2, 3), 24);
        });
        e.edge(7, "NoSuchElementException: none such.", c -> {
            MountPeers x = Worlds.after("ma.mb.ua.");
            for (int m : new int[] {1, 3, 23, 24, 32, -1, Integer.MAX_VALUE, Integer.MIN_VALUE}) {
                c.dueNone("at(" + m + ", 0)", () -> x.at(m, 0));
            }
            for (int d : new int[] {4, -1, 32, Integer.MAX_VALUE, Integer.MIN_VALUE}) {
                c.dueNone("at(0, " + d + ")", () -> x.at(0, d));
            }
            c.dueNone("at(2, 4): not the next one's first dir", () -> x.at(2, 4));
            c.dueNone("at(2, -1): not the last dir of the one ahead", () -> x.at(2, -1));
        });
    }

    /** ROOT, 1, 2, 4 at dirs of ROOT; 3 is not there; 1 has a group, the others nothing. */
    private static MountPeers some() {
        return Worlds.after("ma.mb.mc.md.k1a.uc.");
    }

    private static void sheet(Edges e) {
        e.edge(8, "Which MOUNTS that are there, from the least on, are UNBINDABLE, as a sheet tells it:", c -> {
            MountPeers x = some();
            c.due("0, 1, 2, 3", x.sheet(2, 4, 0, 1), 2);
            c.due("the third entry is that of 2, the fourth that of 4", x.count(3), 4 | 16);
            c.due("kind of 4", x.mount(4, 4), 3);
            c.due("kind of ROOT", x.mount(0, 4), 0);
            MountPeers y = some();
            c.due("-3, -2, -1, 0: no entry is used up by 3, that is not there", y.sheet(2, 4, -3, 1), 0);
            c.due("4, 3, 2, 1", y.sheet(2, 4, 4, -1), 3);
            c.due("4 by the last entry", y.count(3), 1 | 4 | 16);
            c.due("binds() of 4", x.binds(4, 2, 0), -3);
        });
        e.edge(8, "(others are passed by, with their entry);", c -> {
            MountPeers x = some();
            c.due("2, 1, 0, -1: that of 1 is used up", x.sheet(2, 4, 2, -1), 1);
            c.due("ROOT alone", x.count(3), 1);
            c.due("kind of 1", x.mount(1, 4), 1);
            MountPeers y = Worlds.after("ma.k1a.ba:b.k2b.mc.");
            c.due("one with a master is passed by, too", y.sheet(2, 4, 1, 0), 2);
            c.due("ROOT and 3", y.count(3), 1 | 8);
            c.due("kind of 2", y.mount(2, 4), 2);
            MountPeers z = Worlds.chain();
            c.due("one with both", z.sheet(2, 24, 1, 0), 1);
            c.due("kind of 3", z.mount(3, 4), 4);
        });
        e.edge(8, "those behind it are not:", c -> {
            MountPeers x = some();
            x.sheet(2, 4, 1, 0);
            c.due("three entries", x.sheet(2, 3, 1, 0), 2);
            c.due("ROOT and 2", x.count(3), 1 | 4);
            c.due("no entry", x.sheet(2, 0, 1, 0), 0);
            c.due("none", x.count(3), 0);
        });
        e.edge(8, "how many are then.", c -> {
            MountPeers x = some();
            c.due("all three", x.sheet(2, 24, 1, 0), 3);
            c.due("a full one", Worlds.line(23).sheet(0, 24, 1, 0), 24);
            MountPeers y = Worlds.high();
            y.makes(23, 0);
            c.due("the third entry is that of 23", y.sheet(2, 3, -1, 1), 1);
            c.due("23", y.count(3), 1 << 23);
        });
        e.edge(8, "Nothing is kept of it that could be undone", c -> {
            MountPeers x = some();
            c.due("what can be undone", x.count(8), 1);
            x.sheet(2, 4, 1, 0);
            c.due("what can be undone behind it", x.count(8), 1);
            c.due("acts", x.count(4), 6);
        });
        e.edge(8, "(an undo() behind it brings that back, too, as it was ahead of what is undone).", c -> {
            MountPeers x = Worlds.after("ma.mb.");
            x.sheet(2, 1, 1, 0);
            x.mounts(0, 2);
            x.sheet(2, 4, 0, 1);
            c.due("1, 2 and 3", x.count(3), 2 | 4 | 8);
            c.due("undo()", x.undo(), 1);
            c.due("ROOT, as ahead of mounts()", x.count(3), 1);
            c.due("undo() of the day", x.undo(), 0);
            c.due("none, as ahead of the day", x.count(3), 0);
        });
    }

    private static void dueEntries(Check c, int kind, int f, int step, int set) {
        MountPeers x = Worlds.after("ma.mb.mc.md.");
        c.due("sheet(" + kind + ", 5, " + f + ", " + step + ")", x.sheet(kind, 5, f, step), Integer.bitCount(set));
        c.due("those of f " + f + ", step " + step, x.count(3), set);
    }

    private static void sheetEntries(Edges e) {
        e.edge(8, "bytes (kind 0), shorts (1), ints (2) of n entries f, f + step, ..", c -> {
            for (int kind = 0; kind <= 2; kind++) {
                dueEntries(c, kind, -2, 1, 8 | 16);
                dueEntries(c, kind, 2, -1, 1 | 2);
                dueEntries(c, kind, 1, 0, 31);
                dueEntries(c, kind, 0, 0, 0);
                dueEntries(c, kind, -1, 2, 2 | 4 | 8 | 16);
            }
            dueEntries(c, 2, Integer.MAX_VALUE - 1, 1, 1 | 2);
            dueEntries(c, 2, Integer.MIN_VALUE + 1, -1, 4 | 8 | 16);
            dueEntries(c, 2, 0, Integer.MIN_VALUE, 0);
            dueEntries(c, 2, 1, Integer.MIN_VALUE, 1 | 4 | 16);
        });
        e.edge(8, "(of bytes, shorts the lowest bits, with their sign):", c -> {
            dueEntries(c, 0, 126, 1, 1 | 2);
            dueEntries(c, 0, 254, 1, 8 | 16);
            dueEntries(c, 0, -130, 1, 1 | 2);
            dueEntries(c, 0, 512, 0, 0);
            dueEntries(c, 0, 0x7F80, 0, 0);
            dueEntries(c, 0, -255, 0, 31);
            dueEntries(c, 1, 127, 1, 31);
            dueEntries(c, 1, 32766, 1, 1 | 2);
            dueEntries(c, 1, 65534, 1, 8 | 16);
            dueEntries(c, 1, -32770, 1, 1 | 2);
            dueEntries(c, 1, 65536, 65536, 0);
            dueEntries(c, 2, 32766, 1, 31);
            dueEntries(c, 2, 128, 256, 31);
        });
        e.edge(8, "one that has neither GROUP nor MASTER is, if it is above 0, else not", c -> {
            dueEntries(c, 2, -1, 1, 4 | 8 | 16);
            MountPeers x = Worlds.after("ma.k3a.");
            c.due("one that was, and is not told above 0", x.sheet(2, 2, 0, 0), 0);
            c.due("kind of it", x.mount(1, 4), 0);
        });
    }

    private static void sheetRefused(Edges e) {
        e.edge(8, "or a missing one (3):", c -> {
            MountPeers x = some();
            x.sheet(2, 4, 1, 0);
            c.due("with entries that would tell of it", x.sheet(3, 4, 1, 0), -3);
            c.due("none", x.count(3), 0);
        });
        e.edge(8, "-2: n below 0 (of kinds 0 .. 2; nothing changes);", c -> {
            MountPeers x = some();
            x.sheet(2, 4, 1, 0);
            for (int kind = 0; kind <= 2; kind++) {
                c.due("kind " + kind, x.sheet(kind, -1, 1, 1), -2);
                c.due("the least int", x.sheet(kind, Integer.MIN_VALUE, 1, 1), -2);
            }
            c.due("nothing changes", x.count(3), 1 | 4 | 16);
            c.due("of a missing one", x.sheet(3, -1, 1, 1), -3);
            c.due("none then", x.count(3), 0);
        });
        e.edge(8, "-3: missing (none is).", c -> {
            MountPeers x = some();
            x.sheet(2, 4, 1, 0);
            c.due("n 24", x.sheet(3, 24, 1, 1), -3);
            c.due("none", x.count(3), 0);
            c.due("kind of 2", x.mount(2, 4), 0);
            c.due("none once more", x.sheet(3, Integer.MIN_VALUE, 0, 0), -3);
        });
        e.edge(8, "NONE: another kind, n above 24 (these first).", c -> {
            MountPeers x = some();
            x.sheet(2, 4, 1, 0);
            for (int kind : new int[] {4, -1, Integer.MAX_VALUE, Integer.MIN_VALUE}) {
                c.due("kind " + kind, x.sheet(kind, 0, 0, 0), -1);
                c.due("kind " + kind + ", n below 0", x.sheet(kind, -1, 0, 0), -1);
            }
            for (int kind = 0; kind <= 3; kind++) {
                c.due("n 25 of kind " + kind, x.sheet(kind, 25, 0, 0), -1);
                c.due("the largest int of kind " + kind, x.sheet(kind, Integer.MAX_VALUE, 0, 0), -1);
            }
            c.due("nothing changes", x.count(3), 1 | 4 | 16);
            c.due("n 24", x.sheet(0, 24, 1, 0), 3);
        });
    }
}

/** Promises 9 to 16: mounts, binds, trees, kinds, unmounts, moves, days, undo. */
public final class ActPromisesTest {
    private static final Check C = new Check("ActPromisesTest");

    /** 1, 2 at a, b of ROOT: peers of group 1; 3 at c: slave of it with group 2. Next group 3, 6 acts. */
    private static MountPeers chain() {
        MountPeers x = new MountPeers();
        C.due("mounts(0, 0)", x.mounts(0, 0), 1);
        C.due("makes(1, 1)", x.makes(1, 1), 1);
        C.due("binds(1, 0, 1)", x.binds(1, 0, 1), 2);
        C.due("binds(1, 0, 2)", x.binds(1, 0, 2), 3);
        C.due("makes(3, 2)", x.makes(3, 2), 12);
        C.due("makes(3, 1)", x.makes(3, 1), 24);
        return x;
    }

    private static void dueMount(MountPeers x, int m, int... want) {
        for (int what = 0; what < want.length; what++) {
            C.due("mount(" + m + ", " + what + ")", x.mount(m, what), want[what]);
        }
    }

    private static void fill(MountPeers x) {
        for (int m = 0; m < 24; m++) {
            for (int d = 0; d < 4; d++) {
                x.mounts(m, d);
            }
        }
        C.due("all are there", x.count(0), (1 << 24) - 1);
    }

    private static void promise9Mounts() {
        MountPeers x = chain();
        C.due("mounts(1, 0)", x.mounts(1, 0), 4);
        C.dueRow("mounts(1, 0)", x, 3, 16 | 32 | 64);
        dueMount(x, 4, 1, 0, 3, 0, 1, 2);
        dueMount(x, 5, 2, 0, 3, 0, 1, 2);
        dueMount(x, 6, 3, 0, 4, 3, 4, 2);
        C.due("next group", x.count(5), 5);
        C.due("acts", x.count(4), 7);
        C.due("mounts(3, 1) goes not back", x.mounts(3, 1), 7);
        C.dueRow("mounts(3, 1)", x, 1, 128);
        dueMount(x, 7, 3, 1, 5, 0, 1, 2);
        C.due("mounts(2, 1) where one has something already", x.mounts(2, 1), 8);
        C.dueRow("mounts(2, 1)", x, 2, 256 | 512);
        dueMount(x, 8, 2, 1, 6, 0, 1);
        dueMount(x, 9, 1, 1, 6, 0, 1);
        C.due("a group of the spread is named, though no copy comes of it", x.count(5), 8);
        C.due("something is there", x.mounts(1, 0), -2);
        C.due("no such mount", x.mounts(10, 0), -1);
        C.due("no such mount below 0", x.mounts(-1, 0), -1);
        C.due("no such mount at all", x.mounts(24, 0), -1);
        C.due("no such dir", x.mounts(0, 4), -1);
        C.due("no such dir below 0", x.mounts(0, -1), -1);
        C.dueRow("refused ones", x, 2, 256 | 512);
        C.due("acts of refused ones", x.count(4), 9);
        C.due("one that is in ROOT, without group", x.mounts(0, 3), 10);
        dueMount(x, 10, 0, 3, 0, 0, 0, 1);
    }

    private static void promise9Full() {
        MountPeers x = new MountPeers();
        fill(x);
        String state = Check.stateOf(x);
        C.due("would be the 25th", x.mounts(23, 3), -9);
        C.due("something is there ahead of it", x.mounts(0, 0), -2);
        C.dueState("a refused one", x, state);
        C.due("undo", x.undo(), 11);
        C.due("the least number that is not there", x.mounts(23, 3) == -1 && x.mounts(22, 3) == 23 ? 1 : 0, 1);
        MountPeers y = chain();
        y.mounts(0, 3);
        for (int i = 0; i < 17; i++) {
            y.mounts(4 + i / 4, i % 4);
        }
        C.due("22 are there", y.count(0), (1 << 22) - 1);
        String before = Check.stateOf(y);
        int next = y.count(5);
        C.due("two numbers are left for three", y.mounts(1, 3), -9);
        C.dueState("nothing changes by -9", y, before);
        C.due("next group by -9", y.count(5), next);
    }

    private static void promise10Binds() {
        MountPeers x = chain();
        C.due("binds(3, 1, 0): of a slave with group", x.binds(3, 1, 0), 4);
        C.dueRow("binds(3, 1, 0)", x, 3, 16 | 32 | 64);
        dueMount(x, 4, 1, 0, 2, 1, 4);
        dueMount(x, 5, 2, 0, 2, 1, 4);
        dueMount(x, 6, 3, 0, 3, 2, 4);
        C.due("next group", x.count(5), 4);
        C.due("binds(0, 2, 2): of one of kind 0 in a shared one", x.binds(0, 2, 2), 7);
        C.due("its group is new", x.mount(7, 2), 4);
        C.dueRow("it comes in 1, 2, 3, and in 4, 5, 6, that are slaves of these", x, 6, 0x1F80);
        C.due("binds(0, 0, 3): in one without group", x.binds(0, 0, 3), 13);
        dueMount(x, 13, 0, 3, 0, 0, 0, 1);
        MountPeers y = chain();
        y.makes(2, 2);
        C.due("binds of a slave in a shared one", y.binds(2, 1, 1), 4);
        dueMount(y, 4, 1, 1, 3, 1, 4);
        C.due("at(3, 1)", y.at(3, 1), 6);
        dueMount(y, 6, 3, 1, 4, 3, 4);
        C.due("at(2, 1)", y.at(2, 1), 5);
        dueMount(y, 5, 2, 1, 0, 3, 2);
        C.due("something is there", y.binds(1, 1, 1), -2);
        y.makes(0, 3);
        C.due("from is unbindable", y.binds(0, 1, 3), -3);
        C.due("something is there, from is unbindable", y.binds(0, 1, 1), -2);
        C.due("no such from", y.binds(7, 1, 1), -1);
        C.due("no such mount", y.binds(0, 7, 1), -1);
        C.due("no such dir", y.binds(0, 1, 4), -1);
        C.dueRow("refused ones", y, 3, 16 | 32 | 64);
        MountPeers z = new MountPeers();
        fill(z);
        C.due("would be the 25th", z.binds(1, 23, 3), -9);
        z.makes(1, 3);
        C.due("unbindable ahead of -9", z.binds(1, 23, 3), -3);
    }

    private static void promise10Rule() {
        MountPeers x = chain();
        C.due("rule", Check.say(x, "i=3").rule(), 0);
        C.due("binds by a rule", x.binds(1, 1, 3), 4);
        C.dueRow("binds by a rule", x, 2, 16 | 32);
        C.due("at(2, 3)", x.at(2, 3), 24);
        C.due("at(3, 3)", x.at(3, 3), 5);
        dueMount(x, 5, 3, 3, 3, 1, 4);
    }

    /** ROOT: a 1 (group 1), of that a 2 (a: 3, d: 4), b 5 (unbindable; a: 6), d 7; ROOT: b 8. */
    private static MountPeers grove() {
        MountPeers x = new MountPeers();
        x.mounts(0, 0);
        x.mounts(1, 0);
        x.mounts(2, 0);
        x.mounts(2, 3);
        x.mounts(1, 1);
        x.mounts(5, 0);
        x.mounts(1, 3);
        x.mounts(0, 1);
        x.makes(1, 1);
        x.makes(5, 3);
        x.makes(3, 1);
        return x;
    }

    private static void promise11Trees() {
        MountPeers x = grove();
        C.due("trees(1, 8, 2)", x.trees(1, 8, 2), 9);
        C.dueRow("trees(1, 8, 2)", x, 5, 512 | 1024 | 2048 | 4096 | 8192);
        dueMount(x, 9, 8, 2, 1, 0, 1);
        dueMount(x, 10, 9, 0, 0, 0, 0);
        dueMount(x, 11, 10, 0, 2, 0, 1);
        dueMount(x, 12, 10, 3, 0, 0, 0);
        dueMount(x, 13, 9, 3, 0, 0, 0);
        C.due("the unbindable one and what is in it stay out", x.at(9, 1), 24);
        C.due("no new group", x.count(5), 3);
        C.due("acts", x.count(4), 12);
        C.due("one undo", x.undo(), 11);
        C.due("count(0)", x.count(0), 511);
        C.due("trees in itself", x.trees(2, 4, 1), 9);
        C.dueRow("trees in itself", x, 3, 512 | 1024 | 2048);
        dueMount(x, 9, 4, 1);
        dueMount(x, 10, 9, 0);
        dueMount(x, 11, 9, 3);
        C.due("the copy of 4 has nothing", x.inside(11), 0);
        C.due("something is there", x.trees(2, 4, 1), -2);
        C.due("from is unbindable", x.trees(5, 4, 0), -3);
        C.due("the mount has a group", x.trees(2, 1, 2), -4);
        C.due("unbindable, and a group", x.trees(5, 1, 2), -3);
        C.due("something, and unbindable, and a group", x.trees(5, 1, 1), -2);
        C.due("no such from", x.trees(12, 0, 2), -1);
        C.due("no such mount", x.trees(2, 24, 0), -1);
        C.due("no such dir", x.trees(2, 1, 4), -1);
        C.due("trees(0, 0, 2): ROOT's tree in ROOT", x.trees(0, 0, 2), 12);
        C.dueRow("trees(0, 0, 2)", x, 10, 0x3FF000);
        String state = Check.stateOf(x);
        C.due("there are 22: three too many", x.trees(2, 8, 0), -9);
        C.due("a group ahead of -9", x.trees(1, 1, 2), -4);
        C.dueState("refused ones", x, state);
        C.due("one of two", x.trees(7, 8, 0), 22);
    }

    private static void promise12Makes() {
        MountPeers x = chain();
        C.due("0 of one in a group of others", x.makes(1, 0), 10);
        C.due("the slave keeps its master", x.mount(3, 3), 1);
        C.due("1 of one that is shared: nothing changes", x.makes(2, 1), 11);
        C.due("next group", x.count(5), 3);
        C.due("but it is an act", x.count(4), 8);
        C.due("2 of the only one: it has no master", x.makes(2, 2), 10);
        C.due("the slave has none then", x.mount(3, 3), 0);
        C.due("kind of the slave", x.mount(3, 4), 1);
        C.due("2 of one without group", x.makes(2, 2), -2);
        C.due("3", x.makes(2, 3), 3);
        C.due("unbindable", x.count(3), 4);
        C.due("2 of an unbindable one", x.makes(2, 2), -2);
        C.due("1 of an unbindable one", x.makes(2, 1), 31);
        C.due("no more", x.count(3), 0);
        C.due("its group", x.mount(2, 2), 3);
        C.due("v below 0", x.makes(2, -1), -1);
        C.due("v 4", x.makes(2, 4), -1);
        C.due("no such mount", x.makes(4, 1), -1);
        C.due("no such mount, 2", x.makes(-1, 2), -1);
        C.dueRow("makes() tells no row", x, 1, 8);
    }

    private static void promise12Chains() {
        MountPeers x = chain();
        x.binds(3, 0, 3);
        C.due("4 is a peer of 3", x.mount(4, 2), 2);
        C.due("2 of one with peers and a master", x.makes(4, 2), 42);
        C.due("its master is the group that it left", x.mount(4, 3), 2);
        C.due("0 of the last one of a group with a master", x.makes(3, 0), 40);
        C.due("its slave has its master then", x.mount(4, 3), 1);
        C.due("it has none", x.mount(3, 3), 0);
        C.due("4 again has a group", x.makes(4, 1), 24);
        x.mounts(4, 0);
        C.due("3 of one with both", x.makes(4, 3), 43);
        C.due("count(2)", x.count(2), 0);
        MountPeers y = chain();
        C.due("2 of the last one of a group with a master", y.makes(3, 2), 42);
        C.due("it keeps its master", y.mount(3, 3), 1);
        C.due("3 of a slave", y.makes(3, 3), 23);
        C.due("0 of an unbindable one", y.makes(3, 0), 30);
        C.due("0 of one of kind 0", y.makes(3, 0), 0);
    }

    private static void promise13Unmounts() {
        MountPeers x = chain();
        x.mounts(1, 0);
        C.due("unmounts(2, 0) reaches peers and slaves", x.unmounts(2, 0), 3);
        C.dueRow("unmounts(2, 0)", x, 16 | 32 | 64);
        C.due("count(0)", x.count(0), 15);
        C.due("count(1)", x.count(1), 14);
        x.mounts(1, 0);
        C.due("unmounts(3, 0) goes not back", x.unmounts(3, 0), 1);
        C.dueRow("unmounts(3, 0)", x, 64);
        x.mounts(4, 1);
        x.makes(5, 0);
        x.unmounts(5, 1);
        C.due("what 4 is has something", x.unmounts(1, 0), -3);
        C.due("unmounts(2, 0), the copy of 1 has something", x.unmounts(2, 0), 1);
        C.dueRow("unmounts(2, 0), just one", x, 32);
        C.due("nothing is there", x.unmounts(2, 0), -2);
        C.due("no such mount", x.unmounts(5, 0), -1);
        C.due("no such dir", x.unmounts(1, 4), -1);
        C.due("no such dir below 0", x.unmounts(1, -1), -1);
        C.dueRow("refused ones", x, 32);
    }

    private static void promise13RuleAndMasters() {
        MountPeers x = chain();
        x.mounts(1, 0);
        Check.say(x, "i=3").rule();
        C.due("unmounts by a rule", x.unmounts(1, 0), 2);
        C.dueRow("unmounts by a rule", x, 16 | 64);
        Check.say(x, "").rule();
        MountPeers y = chain();
        y.mounts(1, 0);
        y.binds(6, 0, 3);
        C.due("7 has group and master of 6", y.mount(7, 3), 3);
        y.makes(7, 2);
        C.due("7 is a slave of 6", y.mount(7, 3), 4);
        C.due("unmounts of 4, 5, 6", y.unmounts(1, 0), 3);
        C.due("the slave of one that went has the master of that, which went", y.mount(7, 3), 0);
        MountPeers z = chain();
        z.mounts(3, 0);
        z.binds(4, 4, 0);
        z.mounts(1, 1);
        C.due("something in what would go", z.lost(3, 0), -3);
        C.due("what is not a copy goes, too", z.mounts(2, 0), 9);
        C.dueRow("mounts(2, 0)", z, 2, 512 | 1024);
        z.unmounts(4, 0);
        C.due("unmounts(2, 0)", z.unmounts(2, 0), 3);
        C.due("at(3, 0)", z.at(3, 0), 24);
    }

    private static void promise13Nested() {
        MountPeers x = new MountPeers();
        x.makes(0, 1);
        C.due("ROOT is bound in itself", x.binds(0, 0, 0), 1);
        C.due("mounts(1, 0) comes in 1 alone", x.mounts(1, 0), 2);
        C.dueRow("mounts(1, 0)", x, 1, 4);
        C.due("1 has something then: it is not asked again", x.unmounts(1, 0), 1);
        C.dueRow("unmounts(1, 0)", x, 4);
        C.due("unmounts(0, 0)", x.unmounts(0, 0), 1);
        C.due("count(0)", x.count(0), 1);
    }

    private static void promise14Moves() {
        MountPeers x = grove();
        C.due("moves(2, 8, 1): its parent has a group", x.moves(2, 8, 1), -5);
        C.due("moves(8, 1, 2): that has a group", x.moves(8, 1, 2), -6);
        C.due("moves(2, 1, 2): both", x.moves(2, 1, 2), -5);
        C.due("moves(1, 0, 3)", x.moves(1, 0, 3), 0);
        C.due("moves(1, 8, 2)", x.moves(1, 8, 2), 3);
        dueMount(x, 1, 8, 2, 1, 0, 1, 2);
        C.due("all that is in it goes with it", x.mount(3, 5), 4);
        C.due("moves(4, 2, 1)", x.moves(4, 2, 1), 203);
        C.due("moves(6, 0, 0)", x.moves(6, 0, 0), 500);
        C.due("acts", x.count(4), 15);
        C.due("something is there", x.moves(6, 2, 0), -2);
        C.due("where it is", x.moves(6, 0, 0), -2);
        C.due("in itself", x.moves(8, 8, 0), -3);
        C.due("in what is in it", x.moves(8, 3, 0), -3);
        C.due("ROOT", x.moves(0, 3, 0), -3);
        C.due("ROOT where something is", x.moves(0, 0, 0), -2);
        C.due("in itself where something is", x.moves(8, 8, 2), -2);
        C.due("in itself, with a group", x.moves(3, 3, 0), -3);
        C.due("no such from", x.moves(9, 0, 2), -1);
        C.due("no such mount", x.moves(6, -1, 2), -1);
        C.due("no such dir", x.moves(6, 0, 4), -1);
        C.dueRow("moves() tells no row", x, 1, 256);
    }

    private static void dayWrong(String text, int p) {
        MountPeers x = Check.say(new MountPeers(), text);
        String state = Check.stateOf(x);
        C.due("day() of " + text, x.day(), -1 - p);
        C.dueState("day() of " + text, x, state);
        C.due("signs behind it", x.count(10), 0);
        C.due("row behind it", x.count(9), 0);
    }

    private static void promise15DayTexts() {
        dayWrong("x", 0);
        dayWrong("a", 0);
        dayWrong(".", 0);
        dayWrong("m", 1);
        dayWrong("m.", 1);
        dayWrong("me.", 1);
        dayWrong("ma", 2);
        dayWrong("ma:b.", 2);
        dayWrong("ma..", 3);
        dayWrong("ma.x", 3);
        dayWrong("ma.m", 4);
        dayWrong("ba.", 2);
        dayWrong("ba:.", 3);
        dayWrong("ba:b", 4);
        dayWrong("ba:b:", 4);
        dayWrong("b:a.", 1);
        dayWrong("ra", 2);
        dayWrong("va:b", 4);
        dayWrong("u", 1);
        dayWrong("k", 1);
        dayWrong("k4a.", 1);
        dayWrong("ka.", 1);
        dayWrong("k1.", 2);
        dayWrong("k1a:b.", 3);
        dayWrong("k10a.", 2);
        dayWrong("maaaaaaaaaaaaa.", 13);
        dayWrong("ba:aaaaaaaaaaaaa.", 15);
        dayWrong("ma.".repeat(24) + "x", 72);
        dayWrong("ma.".repeat(24) + "ma.", 72);
        dayWrong("mab.".repeat(17) + "mabcd.", 72);
        dayWrong("ma.".repeat(23) + "max.", 71);
        dayWrong("ma.".repeat(23) + "mab", 72);
    }

    private static int day(MountPeers x, String text) {
        return Check.say(x, text).day();
    }

    private static void promise15Days() {
        MountPeers x = new MountPeers();
        C.due("an empty day", day(x, ""), 0);
        C.dueRow("an empty day", x, 0, 1);
        C.due("nothing to undo of it", x.count(8), 0);
        C.due("all acts", day(x, "ma.k1a.ba:b.mac.uac.k3b.mba.vb:c.ra:d."), 9);
        C.dueRow("all acts", x, 0, 5);
        C.due("signs behind day()", x.count(10), 0);
        C.due("acts", x.count(4), 9);
        C.due("one undo", x.count(8), 1);
        C.due("at(0, 1)", x.at(0, 1), 24);
        C.due("at(0, 2)", x.at(0, 2), 2);
        C.due("kind of 2", x.mount(2, 4), 3);
        C.due("at(0, 3)", x.at(0, 3), 4);
        C.due("group of 4", x.mount(4, 2), 1);
        C.due("nothing is mounted at the first", day(x, "bb:dd."), 0);
        C.dueRow("nothing is mounted at the first", x, 1, 5);
        C.due("of makes()", day(x, "k0b."), 0);
        C.due("of moves()", day(x, "vb:dd."), 0);
        C.due("of trees()", day(x, "rb:dd."), 0);
        C.due("a path that breaks off", day(x, "mba."), 0);
        C.due("a second path that breaks off", day(x, "ba:ba."), 0);
        C.due("an act that is refused", day(x, "mc."), 0);
        C.due("an unbindable one", day(x, "bc:b."), 0);
        C.due("nothing more to undo", x.count(8), 1);
        C.due("what could be done is done", day(x, "mb.mb.ud."), 1);
        C.dueRow("what could be done is done", x, 1, 6);
        C.due("one undo more", x.count(8), 2);
        C.due("acts of it", x.count(4), 10);
        C.due("undo() of the day", x.undo(), 1);
        C.due("at(0, 1) behind it", x.at(0, 1), 24);
        C.due("undo() of the first day", x.undo(), 0);
        C.due("count(0)", x.count(0), 1);
        C.due("count(4)", x.count(4), 0);
        C.due("count(5)", x.count(5), 1);
        C.due("72 signs", day(x, "ma.ua.".repeat(12)), 24);
        C.dueRow("72 signs", x, 0, 1);
        MountPeers y = new MountPeers();
        C.due("paths of twelve letters", day(y, "ma.maa.maaa.maaaa.maaaaa.maaaaaa.maaaaaaa.maaaaaaaa.maaaaaaaaa."), 9);
        C.due("paths of twelve letters, too", day(y, "maaaaaaaaaa.maaaaaaaaaaa.maaaaaaaaaaaa."), 3);
        C.dueRow("paths of twelve letters", y, 0, 13);
        MountPeers z = new MountPeers();
        C.due("w goes on by each act", Check.say(z, "w=3").rule(), 0);
        C.due("ma.k1a.ba:b.mac.", day(z, "ma.k1a.ba:b.mac.mad."), 5);
        C.due("the fourth act comes in b, the fifth does not", z.count(0), 63);
        C.due("at(2, 2)", z.at(2, 2), 4);
        C.due("at(2, 3)", z.at(2, 3), 24);
    }

    private static void promise16Undo() {
        MountPeers x = chain();
        String[] states = new String[20];
        C.due("nothing of refused ones", x.count(8), 6);
        x.mounts(0, 0);
        x.makes(24, 1);
        C.due("nothing of refused ones, too", x.count(8), 6);
        Runnable[] acts = {() -> x.mounts(1, 0), () -> x.binds(3, 1, 1), () -> x.makes(1, 3), () -> x.unmounts(2, 0),
            () -> x.trees(3, 0, 3), () -> x.moves(3, 1, 3), () -> day(x, "k0a.ma.mac.mb."), () -> x.makes(0, 0)};
        for (int i = 0; i < acts.length; i++) {
            states[i] = Check.stateOf(x).substring(Check.stateOf(x).indexOf('\n')) + x.count(4) + "," + x.count(5);
            acts[i].run();
        }
        C.due("twelve are kept", x.count(8), 12);
        x.heard(0, 1);
        x.saw(0, 0, 1);
        Check.say(x, "0").rule();
        x.groups();
        for (int i = acts.length - 1; i >= 0; i--) {
            C.due("undo() " + i, x.undo(), 12 - acts.length + i);
            String now = Check.stateOf(x).substring(Check.stateOf(x).indexOf('\n')) + x.count(4) + "," + x.count(5);
            C.due("as it was ahead of " + i, now.equals(states[i]), true);
        }
        C.due("what was heard stays", x.count(6), 1);
        C.due("what was seen stays", x.count(7), 1);
        C.due("the row stays", x.count(9), 2);
        C.due("the rule stays", x.would(1, 0), 1);
        for (int i = 3; i >= 0; i--) {
            C.due("undo(), " + i + " left", x.undo(), i);
        }
        C.due("the two oldest are not kept", x.count(4), 2);
        C.due("none", x.undo(), -1);
        C.due("acts behind none", x.count(4), 2);
        x.makes(0, 0);
        C.due("one more", x.count(8), 1);
    }

    public static void main(String[] args) {
        promise9Mounts();
        promise9Full();
        promise10Binds();
        promise10Rule();
        promise11Trees();
        promise12Makes();
        promise12Chains();
        promise13Unmounts();
        promise13RuleAndMasters();
        promise13Nested();
        promise14Moves();
        promise15DayTexts();
        promise15Days();
        promise16Undo();
        C.end();
    }
}

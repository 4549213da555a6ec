/** Promises 17 to 28: who is whose, trees, what would be. */
public final class TreePromisesTest {
    private static final Check C = new Check("TreePromisesTest");

    /** 1, 2: peers of group 1; 3: slave of it with group 2; 4: slave of group 2 without group; 5 at b of 4. */
    private static MountPeers chain() {
        MountPeers x = new MountPeers();
        x.mounts(0, 0);
        x.makes(1, 1);
        x.binds(1, 0, 1);
        x.binds(1, 0, 2);
        x.makes(3, 2);
        x.makes(3, 1);
        x.binds(3, 0, 3);
        x.makes(4, 2);
        x.mounts(4, 1);
        return x;
    }

    private static void promise17Spread() {
        MountPeers x = chain();
        C.due("spread(1)", x.spread(1), 2 | 4 | 8 | 16);
        C.dueRow("spread(1)", x, 4);
        C.due("spread(2)", x.spread(2), 2 | 4 | 8 | 16);
        C.due("spread(3)", x.spread(3), 8 | 16);
        C.dueRow("spread(3)", x, 2);
        C.due("spread(4)", x.spread(4), 16);
        C.due("spread(0)", x.spread(0), 1);
        C.dueRow("spread(0)", x, 1);
        C.due("spread(6)", x.spread(6), -1);
        C.due("spread(-1)", x.spread(-1), -1);
        C.due("spread(24)", x.spread(24), -1);
        C.dueRow("refused ones", x, 1);
    }

    private static void promise18Peers() {
        MountPeers x = chain();
        C.due("peers(1)", x.peers(1), 6);
        C.dueRow("peers(1)", x, 2, 8);
        C.due("peers(3)", x.peers(3), 8);
        C.dueRow("peers(3)", x, 1, 16);
        C.due("peers(4)", x.peers(4), 16);
        C.dueRow("peers(4)", x, 1, 0);
        C.due("peers(0): those without group are no peers", x.peers(0), 1);
        C.dueRow("peers(0)", x, 1, 0);
        C.due("peers(6)", x.peers(6), -1);
        C.due("peers(-1)", x.peers(-1), -1);
    }

    private static void promise19Masters() {
        MountPeers x = chain();
        C.due("masters(4)", x.masters(4), 2);
        C.dueRow("masters(4)", x, 3, 1);
        C.due("masters(3)", x.masters(3), 1);
        C.dueRow("masters(3)", x, 1);
        x.makes(1, 0);
        C.due("masters(3), the least one", x.masters(3), 1);
        C.dueRow("masters(3), the least one", x, 2);
        C.due("masters(2)", x.masters(2), 0);
        C.dueRow("masters(2)", x);
        C.due("masters(6)", x.masters(6), -1);
        C.due("masters(24)", x.masters(24), -1);
        MountPeers y = chain();
        Check.say(y, "q=2").rule();
        C.due("copies come in slaves alone", y.mounts(1, 0), 6);
        C.dueRow("copies come in slaves alone", y, 2, 64 | 128);
        C.due("its master is a group", y.mount(7, 3), 4);
        C.due("nobody has it", y.masters(7), 0);
        C.dueRow("nobody has it", y);
    }

    private static void promise20Groups() {
        MountPeers x = new MountPeers();
        x.spread(0);
        C.due("none", x.groups(), 0);
        C.dueRow("none", x);
        x = chain();
        C.due("groups()", x.groups(), 2);
        C.dueRow("groups()", x, 2, 1);
        x.makes(1, 0);
        C.due("groups() of one each", x.groups(), 2);
        C.dueRow("the one of the least mount", x, 1, 2);
        x.binds(3, 4, 0);
        C.due("groups(), the later one is larger", x.groups(), 2);
        C.dueRow("groups(), the later one is larger", x, 2, 3);
        x.makes(1, 1);
        C.due("groups(), the latest has the least mount", x.groups(), 3);
        x.makes(3, 0);
        C.due("groups() of one each, too", x.groups(), 3);
        C.dueRow("that of the least mount, not of the least number", x, 1, 1);
    }

    private static void promise21Keepers() {
        MountPeers x = chain();
        C.due("keepers(1, 4): 3 alone has group 2, its slaves have its master then", x.keepers(1, 4), 0);
        C.dueRow("keepers(1, 4)", x, 0);
        C.due("keepers(2, 1)", x.keepers(2, 1), 0);
        C.due("keepers(4, 1): not in it", x.keepers(4, 1), -2);
        C.due("keepers(1, 0)", x.keepers(1, 0), -2);
        C.due("keepers(1, 1)", x.keepers(1, 1), -2);
        C.due("keepers(6, 1)", x.keepers(6, 1), -1);
        C.due("keepers(1, 6)", x.keepers(1, 6), -1);
        C.due("keepers(24, 24)", x.keepers(24, 24), -1);
        C.due("nothing is made", x.spread(1), 2 | 4 | 8 | 16);
        C.due("no act is counted", x.count(4), 9);
    }

    private static void promise22Inside() {
        MountPeers x = chain();
        x.mounts(5, 2);
        C.due("inside(0)", x.inside(0), 126);
        C.dueRow("inside(0)", x, 6, 3);
        C.due("inside(4)", x.inside(4), 32 | 64);
        C.dueRow("inside(4)", x, 2, 2);
        C.due("inside(6)", x.inside(6), 0);
        C.dueRow("inside(6)", x, 0, 0);
        C.due("inside(7)", x.inside(7), -1);
        C.due("inside(-1)", x.inside(-1), -1);
        MountPeers y = new MountPeers();
        for (int m = 0; m < 23; m++) {
            y.mounts(m, m % 4);
        }
        C.due("inside(0) of a chain", y.inside(0), 0xFFFFFE);
        C.dueRow("inside(0) of a chain", y, 23, 23);
        C.due("inside(20)", y.inside(20), 0xE00000);
        C.dueRow("inside(20)", y, 3, 3);
        C.due("path(23)", y.path(23), 23);
        C.due("numbers of the row", y.count(9), 23);
        C.due("the last of them", y.row(22), 2);
    }

    private static void promise23Path() {
        MountPeers x = chain();
        x.mounts(5, 2);
        C.due("path(6)", x.path(6), 3);
        C.dueRow("path(6)", x, 3, 1, 2);
        C.due("path(1)", x.path(1), 1);
        C.dueRow("path(1)", x, 0);
        C.due("path(0)", x.path(0), 0);
        C.dueRow("path(0)", x);
        C.due("path(7)", x.path(7), -1);
        C.due("path(24)", x.path(24), -1);
    }

    /** At a and b of ROOT two trees: a has b, bc; b has b, bc. */
    private static MountPeers twins() {
        MountPeers x = new MountPeers();
        C.due("twins", Check.say(x, "ma.mab.mabc.mb.mbb.mbbc.").day(), 6);
        return x;
    }

    private static void promise24Alike() {
        MountPeers x = twins();
        C.due("alike(1, 4)", x.alike(1, 4), 1);
        C.dueRow("alike(1, 4)", x);
        x.spread(0);
        C.due("alike(1, 1)", x.alike(1, 1), 1);
        C.dueRow("alike(1, 1)", x);
        C.due("alike(0, 1)", x.alike(0, 1), 0);
        C.dueRow("alike(0, 1)", x, 0);
        C.due("alike(2, 6)", x.alike(2, 6), 0);
        C.dueRow("alike(2, 6)", x, 2);
        Check.say(x, "mbbcd.").day();
        C.due("alike(1, 4), deeper", x.alike(1, 4), 0);
        C.dueRow("alike(1, 4), deeper", x, 1, 2, 3);
        Check.say(x, "mac.").day();
        C.due("alike(4, 1): the least row is not the shortest", x.alike(4, 1), 0);
        C.dueRow("alike(4, 1)", x, 1, 2, 3);
        Check.say(x, "maba.").day();
        C.due("alike(4, 1), less still", x.alike(4, 1), 0);
        C.dueRow("alike(4, 1), less still", x, 1, 0);
        C.due("alike(3, 8): neither has anything", x.alike(8, 9), 1);
        C.due("alike(0, 10)", x.alike(0, 10), -1);
        C.due("alike(10, 0)", x.alike(10, 0), -1);
        C.due("alike(-1, 0)", x.alike(-1, 0), -1);
    }

    private static void promise25Largest() {
        MountPeers x = new MountPeers();
        C.due("ROOT alone", x.largest(), -2);
        C.dueRow("ROOT alone", x);
        x.mounts(0, 0);
        C.due("one", x.largest(), 1);
        C.dueRow("one", x, 1);
        x = twins();
        C.due("of as many the least", x.largest(), 1);
        C.dueRow("of as many the least", x, 3);
        x.mounts(6, 0);
        C.due("the most", x.largest(), 4);
        C.dueRow("the most", x, 4);
        x.again(0);
        x = new MountPeers();
        x.spread(0);
        x.largest();
        C.dueRow("the row stays, if there is none", x, 1);
    }

    private static void promise26Would() {
        MountPeers x = chain();
        String state = Check.stateOf(x);
        C.due("would(2, 0)", x.would(2, 0), 4);
        C.dueRow("would(2, 0): that of (1) first", x, 2, 1, 3, 4);
        C.due("would(2, 1): 4 has something there", x.would(2, 1), 3);
        C.dueRow("would(2, 1)", x, 2, 1, 3);
        C.due("would(0, 0)", x.would(0, 0), -2);
        C.due("would(6, 0)", x.would(6, 0), -1);
        C.due("would(0, 4)", x.would(0, 4), -1);
        C.dueRow("refused ones", x, 2, 1, 3);
        C.dueState("would() changes nothing", x, state);
        Check.say(x, "q-3").rule();
        C.due("would(1, 0) by a rule", x.would(1, 0), 2);
        C.dueRow("would(1, 0) by a rule", x, 1, 3);
        MountPeers y = new MountPeers();
        y.makes(0, 1);
        for (int m = 0; m < 3; m++) {
            y.binds(0, 0, m);
        }
        C.due("eight are there", y.count(0), 255);
        C.due("would(4, 3)", y.would(4, 3), 8);
        y.mounts(5, 3);
        C.due("would be 24", y.would(9, 0), 8);
        C.dueRow("would be 24", y, 9, 8, 10, 11, 12, 13, 14, 15);
        y.mounts(9, 0);
        C.due("would be 32", y.would(9, 1), -9);
    }

    private static void promise26Many() {
        MountPeers x = new MountPeers();
        x.makes(0, 1);
        x.makes(0, 0);
        x.mounts(0, 0);
        x.makes(1, 1);
        for (int d = 1; d < 4; d++) {
            x.binds(1, 0, d);
        }
        x.mounts(0, 0);
        Check.say(x, "0").rule();
        for (int m = 1; m <= 3; m++) {
            for (int d = 1; d < 4; d++) {
                x.binds(1, m, d);
            }
        }
        C.due("14 are there", x.count(0), (1 << 14) - 1);
        Check.say(x, "d=0").rule();
        C.due("more than 24", x.would(1, 0), -9);
        Check.say(x, "i<12").rule();
        C.due("ten in the 13", x.would(9, 0), -9);
        Check.say(x, "i<10").rule();
        C.due("nine others and 12", x.would(12, 0), 10);
        C.dueRow("nine others and 12", x, 12, 1, 2, 3, 4, 5, 6, 7, 8, 9);
    }

    private static void promise27Lost() {
        MountPeers x = chain();
        x.mounts(1, 0);
        String state = Check.stateOf(x);
        C.due("lost(2, 0)", x.lost(2, 0), 64 | 128 | 256 | 512);
        C.dueRow("lost(2, 0)", x, 4);
        C.due("lost(3, 0)", x.lost(3, 0), 256 | 512);
        C.dueRow("lost(3, 0)", x, 2);
        C.due("lost(0, 3): something has it as parent", x.lost(0, 3), -3);
        C.due("lost(1, 1): nothing is there", x.lost(1, 1), -2);
        C.due("lost(10, 1)", x.lost(10, 1), -1);
        C.due("lost(1, 4)", x.lost(1, 4), -1);
        C.due("lost(1, -1)", x.lost(1, -1), -1);
        C.dueRow("refused ones", x, 2);
        C.dueState("lost() changes nothing", x, state);
        Check.say(x, "i-2").rule();
        C.due("lost(1, 0) by a rule", x.lost(1, 0), 64 | 256 | 512);
    }

    private static void promise28Widest() {
        MountPeers x = new MountPeers();
        C.due("ROOT alone", x.widest(), 0);
        C.dueRow("ROOT alone", x, 1);
        x = chain();
        C.due("widest()", x.widest(), 10);
        C.dueRow("widest()", x, 4);
        x.mounts(1, 0);
        C.due("then dir c: in 4 b is taken", x.widest(), 12);
        C.dueRow("then dir c", x, 4);
        Check.say(x, "0").rule();
        C.due("by a rule: the least that is free", x.widest(), 11);
        C.dueRow("by a rule", x, 1);
        MountPeers y = new MountPeers();
        for (int m = 0; m < 23; m++) {
            y.mounts(m, 0);
        }
        C.due("24 are there", y.widest(), -2);
        C.dueRow("24 are there: the row stays", y, 1, 1 << 23);
        y.undo();
        C.due("23 are there", y.widest(), 1);
        y.undo();
        y.makes(1, 1);
        y.undo();
        y.undo();
        y.makes(0, 1);
        y.makes(20, 1);
        C.due("of all that one may be done", y.widest(), 1);
    }

    private static void promise28RefusedAside() {
        MountPeers x = chain();
        x.unmounts(4, 1);
        for (int i = 0; i < 15; i++) {
            x.mounts(i == 0 ? 0 : 4, i % 4);
        }
        int m = 4;
        while (Integer.bitCount(x.count(0)) < 21) {
            for (int d = 0; d < 4 && Integer.bitCount(x.count(0)) < 21; d++) {
                x.mounts(m, d);
            }
            m++;
        }
        C.due("21 are there: three more can come", x.would(1, 0) == -9 || x.would(1, 0) <= 3 ? 1 : 0, 1);
        int best = x.widest();
        long told = x.row(0);
        C.due("what is told can be done", x.would(best / 10, best % 10), told);
    }

    public static void main(String[] args) {
        promise17Spread();
        promise18Peers();
        promise19Masters();
        promise20Groups();
        promise21Keepers();
        promise22Inside();
        promise23Path();
        promise24Alike();
        promise25Largest();
        promise26Would();
        promise26Many();
        promise27Lost();
        promise28Widest();
        promise28RefusedAside();
        C.end();
    }
}

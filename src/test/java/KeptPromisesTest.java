/** Promises 42 to 45: keep, again, count, row. */
public final class KeptPromisesTest {
    private static final Check C = new Check("KeptPromisesTest");

    private static void promise42Keep() {
        MountPeers x = new MountPeers();
        C.due("keep(-1)", x.keep(-1), false);
        C.due("keep(2)", x.keep(2), false);
        C.due("keep(max)", x.keep(Integer.MAX_VALUE), false);
        C.due("keep(32)", x.keep(32), false);
        C.due("keep(0)", x.keep(0), true);
        x.mounts(0, 0);
        C.due("keep(1)", x.keep(1), true);
        C.due("keeping forgets nothing", x.count(8), 1);
        x.mounts(0, 1);
        C.due("again(0)", x.again(0), true);
        C.due("count(0) of 0", x.count(0), 1);
        C.due("again(1)", x.again(1), true);
        C.due("count(0) of 1", x.count(0), 3);
        x.mounts(0, 1);
        C.due("keep(0) once more", x.keep(0), true);
        x.mounts(0, 2);
        C.due("again(0), as kept last", x.again(0), true);
        C.due("count(0) of that", x.count(0), 7);
        C.due("again(0) twice", x.again(0), true);
        for (int i : new int[] {-1, 2, 32, 33, -32, Integer.MAX_VALUE, Integer.MIN_VALUE}) {
            C.due("again(" + i + ")", x.again(i), false);
        }
    }

    private static void promise43Again() {
        MountPeers x = new MountPeers();
        for (int i : new int[] {0, 1, -1, 2, 32, Integer.MIN_VALUE}) {
            C.due("again(" + i + ") of nothing", x.again(i), false);
        }
        Check.say(x, "ma.k1a.ba:b.mac.k2b.k3bc.").day();
        x.sheet(2, 1, 1, 0);
        String state = Check.stateOf(x);
        x.keep(1);
        x.heard(1, 1);
        x.saw(1, 1, 1);
        Check.say(x, "0").rule();
        x.makes(1, 0);
        x.unmounts(2, 2);
        x.moves(3, 2, 0);
        x.sheet(3, 0, 0, 0);
        x.spread(0);
        x.sign(0);
        C.due("again(0): nothing kept there", x.again(0), false);
        C.due("what can be undone stays", x.count(8), 4);
        C.due("again(1)", x.again(1), true);
        C.due("what can be undone is forgotten", x.count(8), 0);
        C.due("undo()", x.undo(), -1);
        C.due("heard stays", x.forget(), 1);
        C.due("seen stays", x.denies(), 1);
        C.dueRow("the row stays", x, 1);
        C.due("the text stays", x.count(10), 4);
        String then = Check.stateOf(x);
        C.due("mounts, kinds, acts, next group as kept", then.substring(0, then.indexOf(" 0 0 0 \n")),
            state.substring(0, state.indexOf(" 0 0 1 \n")));
        C.due("places, groups, masters as kept", then.substring(then.indexOf('\n')), state.substring(state.indexOf('\n')));
        x.mounts(0, 3);
        C.due("undo() behind it", x.undo(), 0);
    }

    private static void promise44Count() {
        MountPeers x = new MountPeers();
        Check.say(x, "ma.k1a.ba:b.ba:c.k2c.md.k3d.").day();
        x.makes(0, 0);
        x.heard(0, 0);
        x.heard(0, 0);
        x.saw(0, 0, 0);
        x.peers(1);
        x.sign(0);
        long[] due = {31, 6, 8, 16, 8, 2, 2, 1, 2, 2, 4};
        for (int i = 0; i < due.length; i++) {
            C.due("count(" + i + ")", x.count(i), due[i]);
        }
        for (int bad : new int[] {-1, 11, Integer.MAX_VALUE, Integer.MIN_VALUE}) {
            C.due("count(" + bad + ")", x.count(bad), -1);
        }
    }

    private static void promise45Row() {
        MountPeers x = new MountPeers();
        C.dueNone("row(0) of none", () -> x.row(0));
        C.dueNone("row(-1) of none", () -> x.row(-1));
        x.inside(0);
        C.due("row(0)", x.row(0), 0);
        C.due("row(1)", x.row(1), 0);
        C.dueNone("row(2)", () -> x.row(2));
        C.dueNone("row(-1)", () -> x.row(-1));
        C.dueNone("row(max)", () -> x.row(Integer.MAX_VALUE));
        C.dueNone("row(min)", () -> x.row(Integer.MIN_VALUE));
        x.spread(0);
        C.due("a new row", x.row(0), 1);
        C.dueNone("what the old one had beyond it", () -> x.row(1));
        x.path(0);
        C.dueNone("row(0) of an empty one", () -> x.row(0));
    }

    public static void main(String[] args) {
        promise42Keep();
        promise43Again();
        promise44Count();
        promise45Row();
        C.end();
    }
}

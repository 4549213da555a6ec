import java.lang.management.ManagementFactory;

/** All calls of a run live in one room: the calls make nothing anew but the exceptions that they throw. */
public final class RoomTest {
    private static final Check C = new Check("RoomTest");
    private static final com.sun.management.ThreadMXBean THREADS =
        (com.sun.management.ThreadMXBean) ManagementFactory.getThreadMXBean();

    private static long used() {
        return THREADS.getThreadAllocatedBytes(Thread.currentThread().getId());
    }

    /** Every call but mount, at, row with what they refuse. */
    private static int everyCall(MountPeers x, int i) {
        int m = i % 25;
        int d = i / 7 % 5;
        int sum = x.years(i, 1 + i % 40) + x.mounts(m, d) + x.binds(i % 24, m, d) + x.trees(m, i % 24, d) + x.makes(m, d);
        x.end(0);
        sum += x.sign(0x6D612E6B) + x.sign(0x31612E62) + x.sign(0x613A622E) + x.day();
        sum += x.sign(0x692A282D) + x.sign(0x6E2B6729) + x.rule();
        sum += x.sign(0x672D713C) + x.sign(0x77696964) + x.law(m, d);
        x.sign(0x61626364);
        sum += x.place() + x.unmounts(m, d) + x.moves(i % 24, m, d) + x.sheet(i % 5, i % 25, i, i) + x.undo();
        sum += x.spread(m) + x.peers(m) + x.masters(m) + x.groups() + x.keepers(m, i % 24) + x.inside(m) + x.path(m);
        sum += x.alike(m, i % 24) + x.largest() + x.would(m, d) + x.lost(m, d) + x.widest() + x.heard(d, i % 10) + x.fits();
        sum += x.asks() + x.saw(i % 10, d, i % 2) + x.laws() + x.looks() + x.odds(m, i % 17, i % 11) + x.hacks(m) + x.rests(i % 22);
        sum += i % 13 == 0 ? x.forget() + x.denies() : 0;
        sum += (x.keep(i % 3) ? 1 : 0) + (i % 50 == 0 && x.again(i % 2) ? 1 : 0) + x.count(i % 12);
        return sum;
    }

    public static void main(String[] args) {
        MountPeers x = new MountPeers();
        int sum = 0;
        for (int i = 0; i < 300; i++) {
            sum += everyCall(x, i);
        }
        used();
        long before = used();
        for (int i = 300; i < 600; i++) {
            sum += everyCall(x, i);
        }
        long made = used() - before;
        // a little is left to the machine: a call that made a thing would make 300 of them
        C.due("bytes made by calls", made < 2000 ? 0 : made, 0);
        before = used();
        for (int i = 0; i < 1000; i++) {
            sum += new MountPeers().count(0);
        }
        long each = (used() - before) / 1000;
        C.due("an object is small: " + each + " bytes (" + sum + ")", each < 20000, true);
        C.end();
    }
}

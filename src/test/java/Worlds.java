/** Objects on which a few calls were made, as many tests begin with them. */
final class Worlds {
    private Worlds() {
    }

    /** A new object on which all acts of a day were done. */
    static MountPeers after(String acts) {
        MountPeers x = new MountPeers();
        int due = acts.length() - acts.replace(".", "").length();
        if (Check.say(x, acts).day() != due) {
            throw new IllegalStateException("not all was done of " + acts);
        }
        return x;
    }

    /** 1, 2 at a, b of ROOT: peers of group 1. Three acts, next group 2. */
    static MountPeers peers() {
        return after("ma.k1a.ba:b.");
    }

    /** 1, 2 at a, b of ROOT: peers of group 1; 3 at c: its master is group 1, its group 2. Six acts, next group 3. */
    static MountPeers chain() {
        return after("ma.k1a.ba:b.ba:c.k2c.k1c.");
    }

    /** chain(), and 4 at d: its master is group 2, it has no group. Eight acts, next group 3. */
    static MountPeers longChain() {
        return after("ma.k1a.ba:b.ba:c.k2c.k1c.bc:d.k2d.");
    }

    /** 1 in ROOT, 2 in 1, .., all at a, so that so many are there beside ROOT. */
    static MountPeers line(int mounts) {
        MountPeers x = new MountPeers();
        for (int m = 0; m < mounts; m++) {
            x.mounts(m, 0);
        }
        return x;
    }

    /** 1 at a of ROOT, 23 at d of it: peers of group 1; no others are there. Next group 2. */
    static MountPeers high() {
        MountPeers x = after("ma.k1a.mb.");
        for (int m = 2; m < 22; m++) {
            x.mounts(m, 0);
        }
        x.binds(1, 0, 3);
        for (int m = 21; m >= 2; m--) {
            x.unmounts(m, 0);
        }
        x.unmounts(0, 1);
        if (x.count(0) != (1 | 2 | 1 << 23)) {
            throw new IllegalStateException("others are there");
        }
        return x;
    }

    /** ROOT has a group (2) and a master (1), which 1 at a has as its group; 2 at b is a peer of ROOT. Next group 3. */
    static MountPeers rootAsSlave() {
        MountPeers x = new MountPeers();
        x.makes(0, 1);
        x.binds(0, 0, 0);
        x.makes(0, 2);
        x.makes(0, 1);
        x.binds(0, 0, 1);
        return x;
    }

    /** ROOT and as many others are peers (group 1), four in each from ROOT on; the rule is 0. */
    static MountPeers crowd(int others) {
        MountPeers x = new MountPeers();
        x.makes(0, 1);
        ruled(x, "0");
        for (int i = 0; i < others; i++) {
            x.binds(0, i / 4, i % 4);
        }
        return x;
    }

    static MountPeers ruled(MountPeers x, String rule) {
        if (Check.say(x, rule).rule() != 0) {
            throw new IllegalStateException("no rule: " + rule);
        }
        return x;
    }

    static int day(MountPeers x, String text) {
        return Check.say(x, text).day();
    }
}

/** Promises 37 to 41: odds, hacks, rests, other rules, years. */
public final class ChancePromisesTest {
    private static final Check C = new Check("ChancePromisesTest");

    /** 1, 2, 3: peers at a, b, c of ROOT. */
    private static MountPeers peers() {
        MountPeers x = new MountPeers();
        C.due("peers", Check.say(x, "ma.k1a.ba:b.ba:c.").day(), 4);
        return x;
    }

    private static void dueOdds(MountPeers x, int m, int k, int p, long upper, long lower) {
        C.due("odds(" + m + ", " + k + ", " + p + ")", x.odds(m, k, p), 0);
        C.dueRow("odds(" + m + ", " + k + ", " + p + ")", x, upper, lower);
    }

    /** ROOT and 1 .. n are peers, in ROOT, 1, 2, .. each. */
    private static MountPeers crowd(int n) {
        MountPeers x = new MountPeers();
        x.makes(0, 1);
        Check.say(x, "0").rule();
        for (int i = 0; i < n; i++) {
            x.binds(0, i / 4, i % 4);
        }
        return x;
    }

    private static void promise37Odds() {
        MountPeers x = peers();
        dueOdds(x, 1, 0, 3, 1, 1);
        dueOdds(x, 1, 1, 3, 51, 100);
        dueOdds(x, 1, 2, 3, 9, 100);
        dueOdds(x, 1, 3, 3, 0, 1);
        dueOdds(x, 1, 16, 3, 0, 1);
        dueOdds(x, 1, 1, 0, 0, 1);
        dueOdds(x, 1, 0, 0, 1, 1);
        dueOdds(x, 1, 2, 10, 1, 1);
        dueOdds(x, 1, 1, 5, 3, 4);
        dueOdds(x, 0, 0, 5, 1, 1);
        dueOdds(x, 0, 1, 5, 0, 1);
        for (int[] bad : new int[][] {{4, 0, 0}, {-1, 0, 0}, {24, 1, 1}, {1, -1, 0}, {1, 17, 0}, {1, 0, -1}, {1, 0, 11}}) {
            C.due("odds(" + bad[0] + ", " + bad[1] + ", " + bad[2] + ")", x.odds(bad[0], bad[1], bad[2]), -1);
        }
        C.dueRow("refused ones", x, 0, 1);
        MountPeers y = crowd(16);
        C.due("spread of 17", Integer.bitCount(y.spread(0)), 17);
        dueOdds(y, 0, 16, 1, 1, 10000000000000000L);
        dueOdds(y, 0, 1, 1, 8146979811148159L, 10000000000000000L);
        dueOdds(y, 0, 0, 7, 1, 1);
        dueOdds(y, 0, 8, 5, 39203, 65536);
        dueOdds(y, 0, 16, 10, 1, 1);
        C.due("spread of 18", crowd(17).odds(0, 0, 0), -1);
    }

    private static void promise38Hacks() {
        MountPeers x = new MountPeers();
        x.spread(0);
        C.due("ROOT alone", x.hacks(0), 0);
        C.dueRow("ROOT alone", x);
        Check.say(x, "ma.mb.").day();
        C.due("two like ones", x.hacks(0), 0);
        C.dueRow("two like ones", x);
        Check.say(x, "mba.").day();
        C.due("one and two", x.hacks(0), 1);
        C.dueRow("one and two", x, 3);
        Check.say(x, "mc.mca.mcaa.").day();
        C.due("one, two and three", x.hacks(0), 0);
        Check.say(x, "mbaa.").day();
        C.due("one, three and three", x.hacks(0), 1);
        C.dueRow("one, three and three", x, 1);
        C.due("inside 4", x.hacks(4), 1);
        C.dueRow("inside 4: all at once", x, 5);
        C.due("nothing inside 6", x.hacks(6), 0);
        C.dueRow("nothing inside 6", x);
        C.due("hacks(8)", x.hacks(8), -1);
        C.due("hacks(-1)", x.hacks(-1), -1);
        MountPeers y = new MountPeers();
        Check.say(y, "ma.maa.mab.mb.mba.").day();
        C.due("(1 ^ 1) + 1 and 2", y.hacks(0), 1);
        C.dueRow("cut 2 or 5, and both are alike", y, 2);
        C.due("count(0): nothing is cut", y.count(0), 63);
    }

    private static void promise39Rests() {
        MountPeers x = new MountPeers();
        x.spread(0);
        C.due("rests(-1)", x.rests(-1), -1);
        C.due("rests(21)", x.rests(21), -1);
        C.dueRow("refused ones", x, 1);
        C.due("rests(0)", x.rests(0), 1);
        C.dueRow("rests(0)", x, 0, 0);
        C.due("rests(1): 0 and 0 as good as 1 and 0", x.rests(1), 3);
        C.dueRow("rests(1)", x, 0, 0);
        C.due("rests(2): 0 and 1", x.rests(2), 2);
        C.dueRow("rests(2)", x, 0, 1);
        C.due("rests(20): who keeps fewer would keep one more than the other", x.rests(20), 0);
        C.dueRow("rests(20)", x);
    }

    private static int law(MountPeers x, String rule, int m, int d) {
        return Check.say(x, rule).law(m, d);
    }

    private static void promise40Law() {
        MountPeers x = peers();
        String state = Check.stateOf(x);
        C.due("0 less none", law(x, "0", 1, 0), -2);
        C.dueRow("0 less none", x, 1, 3);
        C.due("i=3 less none", law(x, "i=3", 1, 0), -1);
        C.dueRow("i=3 less none", x, 2, 3);
        C.due("none less none", law(x, "", 1, 0), 0);
        C.dueRow("none less none", x, 3, 3);
        C.due("signs behind it", x.count(10), 0);
        C.dueState("law() changes nothing", x, state);
        C.due("the rule stays", x.would(1, 0), 3);
        Check.say(x, "0").rule();
        C.due("1 less 0", law(x, "1", 2, 0), 2);
        C.dueRow("1 less 0", x, 3, 1);
        C.due("where something is", law(x, "1", 0, 0), 0);
        C.dueRow("where something is", x, 0, 0);
        x.would(1, 0);
        C.due("no such mount", law(x, "1", 4, 0), -2);
        C.due("signs behind a refused one", x.count(10), 0);
        C.due("no such dir", law(x, "1", 1, 4), -2);
        C.due("no such dir below 0", law(x, "1", 1, -1), -2);
        C.due("wrong, and no such mount", law(x, "1+", 4, 0), -10002);
        C.due("wrong at 0", law(x, "z", 1, 0), -10000);
        C.due("more than 40", law(x, "1+".repeat(20) + "1", 1, 0), -10040);
        C.dueRow("refused ones", x, 1);
        MountPeers y = crowd(13);
        C.due("none would be refused", law(y, "1", 5, 0), 9);
        C.dueRow("none would be refused", y, 10, 1);
        y = crowd(14);
        C.due("one would be refused", law(y, "1", 5, 0), -1);
        C.dueRow("one would be refused", y, 0, 1);
    }

    /** Told from the document: what is drawn, as the calls themselves. */
    private static void promise41Years() {
        MountPeers x = new MountPeers();
        x.spread(0);
        C.due("years(1, 0)", x.years(1, 0), -1);
        C.due("years(1, -1)", x.years(1, -1), -1);
        C.due("years(1, 41)", x.years(1, 41), -1);
        C.dueRow("refused ones", x, 1);
        for (int seed : new int[] {0, 1, -1, 7, 12345, Integer.MIN_VALUE, Integer.MAX_VALUE, 99, 1000003}) {
            MountPeers one = new MountPeers();
            MountPeers other = new MountPeers();
            for (int round = 0; round < 5; round++) {
                int told = one.years(seed + round, 40);
                int done = drawn(other, seed + round, 40);
                C.dueState("years(" + (seed + round) + ", 40)", one, Check.stateOf(other));
                C.due("how many are there then", told, Integer.bitCount(other.count(0)));
                C.dueRow("years()", one, other.groups(), done);
            }
        }
        MountPeers y = new MountPeers();
        y.years(3, 40);
        C.due("each act can be undone by itself", y.count(8), Math.min(12, y.count(4)));
    }

    private static int drawn(MountPeers x, int seed, int n) {
        long[] r = {seed};
        int done = 0;
        for (int i = 0; i < n; i++) {
            int act = draw(r, 6);
            int m = draw(r, 24);
            int d = draw(r, 4);
            int answer = act < 3 ? x.mounts(m, d) : act == 3 ? x.makes(m, 1)
                : act == 4 ? x.binds(draw(r, 24), m, d) : x.unmounts(m, d);
            done += answer < 0 ? 0 : 1;
        }
        return done;
    }

    private static int draw(long[] r, int n) {
        r[0] = (r[0] * 1103515245L + 12345L) & 0xFFFFFFFFL;
        return (int) (r[0] / 65536 % n);
    }

    /** The first draws of seed 1, reckoned by hand: R is 1103527590, then 2524885223, then 662824084. */
    private static void promise41FirstDraw() {
        MountPeers x = new MountPeers();
        long[] r = {1};
        C.due("16838 % 6", draw(r, 6), 16838 % 6);
        C.due("R", r[0], 1103527590L);
        C.due("38526 % 24", draw(r, 24), 38526 % 24);
        C.due("R, then", r[0], 2524885223L);
        C.due("years(1, 1): 2, mounts() in 6, that is not there", x.years(1, 1), 1);
        C.dueRow("years(1, 1)", x, 0, 0);
    }

    public static void main(String[] args) {
        promise37Odds();
        promise38Hacks();
        promise39Rests();
        promise40Law();
        promise41Years();
        promise41FirstDraw();
        C.end();
    }
}

import java.math.BigInteger;

/** Promises 37 to 41: chances, a game, rests, other rules, years. */
final class ChanceEdges {
    private ChanceEdges() {
    }

    static void tell(Edges e) {
        odds(e);
        hacks(e);
        rests(e);
        law(e);
        lawRefused(e);
        years(e);
        draws(e);
    }

    private static void dueOdds(Check c, MountPeers x, int m, int k, int p, long upper, long lower) {
        String call = "odds(" + m + ", " + k + ", " + p + ")";
        c.due(call, x.odds(m, k, p), 0);
        c.dueRow(call, x, upper, lower);
    }

    /** Told from the binomials. */
    private static void dueOdds(Check c, MountPeers x, int others, int k, int p) {
        BigInteger upper = BigInteger.ZERO;
        BigInteger ways = BigInteger.ONE;
        for (int j = 0; j <= others; j++) {
            if (j >= k) {
                upper = upper.add(ways.multiply(BigInteger.valueOf(p).pow(j)).multiply(BigInteger.valueOf(10 - p).pow(others - j)));
            }
            ways = ways.multiply(BigInteger.valueOf(others - j)).divide(BigInteger.valueOf(j + 1));
        }
        BigInteger lower = BigInteger.TEN.pow(others);
        BigInteger divisor = upper.gcd(lower);
        dueOdds(c, x, 0, k, p, upper.divide(divisor).longValueExact(), lower.divide(divisor).longValueExact());
    }

    private static void odds(Edges e) {
        e.edge(37, "Each of SPREAD of a MOUNT but itself (16 at most; more: NONE)", c -> {
            MountPeers x = Worlds.crowd(16);
            dueOdds(c, x, 0, 16, 1, 1, 10000000000000000L);
            dueOdds(c, x, 7, 1, 1, 8146979811148159L, 10000000000000000L);
            MountPeers y = Worlds.crowd(17);
            y.inside(17);
            c.due("17 others", y.odds(0, 1, 5), -1);
            c.due("17 others, none needed", y.odds(0, 0, 0), -1);
            c.dueRow("17 others", y, 0, 0);
            y.makes(17, 0);
            dueOdds(c, y, 0, 16, 5, 1, 65536);
            dueOdds(c, y, 17, 0, 5, 1, 1);
            MountPeers z = Worlds.longChain();
            dueOdds(c, z, 3, 1, 3, 3, 10);
            dueOdds(c, z, 1, 3, 5, 1, 8);
        });
        e.edge(37, "gets a copy by p tenths (0 .. 10), each by itself:", c -> {
            MountPeers x = Worlds.after("ma.k1a.ba:b.ba:c.");
            dueOdds(c, x, 1, 1, 0, 0, 1);
            dueOdds(c, x, 1, 0, 0, 1, 1);
            dueOdds(c, x, 1, 2, 10, 1, 1);
            dueOdds(c, x, 1, 3, 10, 0, 1);
            dueOdds(c, x, 1, 1, 3, 51, 100);
            dueOdds(c, x, 1, 2, 3, 9, 100);
            x.inside(0);
            c.due("-1", x.odds(1, 1, -1), -1);
            c.due("11", x.odds(1, 1, 11), -1);
            c.dueRow("refused ones", x, 3, 1);
        });
        e.edge(37, "how likely k (0 .. 16) or more do: 0; the ROW: the fraction.", c -> {
            for (int others : new int[] {0, 1, 5, 16}) {
                MountPeers x = Worlds.crowd(others);
                for (int k = 0; k <= 16; k++) {
                    for (int p = 0; p <= 10; p++) {
                        dueOdds(c, x, others, k, p);
                    }
                }
            }
        });
        e.edge(37, "NONE: others.", c -> {
            MountPeers x = Worlds.after("ma.mb.mc.md.");
            x.inside(0);
            for (int m : new int[] {5, 23, 24, 32, -1, Integer.MAX_VALUE, Integer.MIN_VALUE}) {
                c.due("odds(" + m + ", 0, 0)", x.odds(m, 0, 0), -1);
            }
            for (int k : new int[] {-1, 17, Integer.MAX_VALUE, Integer.MIN_VALUE}) {
                c.due("odds(0, " + k + ", 0)", x.odds(0, k, 0), -1);
            }
            for (int p : new int[] {-1, 11, Integer.MAX_VALUE, Integer.MIN_VALUE}) {
                c.due("odds(0, 0, " + p + ")", x.odds(0, 0, p), -1);
            }
            c.dueRow("refused ones", x, 4, 1);
        });
    }

    private static void dueHacks(Check c, String acts, int m, int... cuts) {
        MountPeers x = acts.isEmpty() ? new MountPeers() : Worlds.after(acts);
        String state = Check.stateOf(x);
        x.peers(0);
        c.due("hacks(" + m + ") behind " + acts, x.hacks(m), cuts.length);
        if (cuts.length == 0) {
            c.dueRow("hacks(" + m + ") behind " + acts, x);
        } else {
            c.dueRow("hacks(" + m + ") behind " + acts, x, cuts[0]);
        }
        c.dueState("hacks()", x, state);
    }

    private static void hacks(Edges e) {
        e.edge(38, "Two cut by turns a MOUNT that is IN one, with all that is IN it; who can't has lost: 1 if the first one wins by best play, else 0;", c -> {
            dueHacks(c, "", 0);
            dueHacks(c, "ma.", 0, 1);
            dueHacks(c, "ma.", 1);
            dueHacks(c, "ma.mb.", 0);
            dueHacks(c, "ma.maa.maaa.", 0, 1);
            dueHacks(c, "ma.maa.maaa.", 1, 2);
            dueHacks(c, "ma.mb.mba.", 0, 3);
            dueHacks(c, "ma.mb.mba.mc.mca.mcaa.", 0);
            dueHacks(c, "ma.mb.mc.md.", 0);
            dueHacks(c, "ma.mb.mc.", 0, 1);
            dueHacks(c, "ma.maa.mab.", 0, 1);
            dueHacks(c, "ma.maa.mab.", 1);
            dueHacks(c, "ma.maa.mab.mb.", 0);
            MountPeers x = Worlds.line(23);
            c.due("a line of 23", x.hacks(0), 1);
            c.dueRow("a line of 23", x, 1);
            c.due("a line of 1", x.hacks(22), 1);
            c.dueRow("a line of 1", x, 23);
        });
        e.edge(38, "the ROW: the least that he cuts so (nothing without).", c -> {
            dueHacks(c, "mb.ma.mba.", 0, 3);
            dueHacks(c, "ma.maa.mb.", 0, 2);
            dueHacks(c, "ma.maa.maaa.mb.", 0, 2);
            dueHacks(c, "ma.maa.mb.mba.mc.", 0, 5);
            dueHacks(c, "ma.maa.mb.mba.", 0);
            dueHacks(c, "ma.maa.mb.mba.mbb.", 0, 2);
        });
        e.edge(38, "NONE: none such.", c -> {
            MountPeers x = Worlds.after("ma.mb.mc.md.");
            x.inside(0);
            for (int m : new int[] {5, 23, 24, 32, 33, -1, Integer.MAX_VALUE, Integer.MIN_VALUE}) {
                c.due("hacks(" + m + ")", x.hacks(m), -1);
            }
            c.dueRow("refused ones", x, 4, 1);
        });
    }

    private static int has(int v, int own, int other) {
        return own > other ? v - own : own < other ? v / 2 - 2 * own : v / 3 - own;
    }

    private static void rests(Edges e) {
        e.edge(39, "Two keep x and y (0 .. 9) copies of a thing that is worth v (0 .. 20):", c -> {
            MountPeers x = new MountPeers();
            int[] pairs = {1, 3, 2, 2, 2, 0, 0, 0, 0, 0, 0, 0, 0, 0, 0, 0, 0, 0, 0, 0, 0};
            for (int v = 0; v <= 20; v++) {
                c.due("rests(" + v + ")", x.rests(v), pairs[v]);
            }
        });
        e.edge(39, "who keeps more has v less his copies; who keeps fewer has half of v (cut) less twice his own;"
            + " like ones v by 3 (cut), less their own.", c -> {
                c.due("like ones of 2 have none, who keeps more has 1", has(2, 0, 0) * 10 + has(2, 1, 0), 1);
                MountPeers x = new MountPeers();
                c.due("rests(2)", x.rests(2), 2);
                c.dueRow("rests(2): 0 and 1, 1 and 0", x, 0, 1);
                c.due("like ones of 1 have none, who keeps more has none", has(1, 0, 0) * 10 + has(1, 1, 0), 0);
                c.due("rests(1)", x.rests(1), 3);
                c.dueRow("rests(1): 0 and 0, too", x, 0, 0);
                c.due("half of 5 is 2, cut; who has 2 more than 1 has 3", has(5, 0, 1) * 10 + has(5, 2, 1), 23);
                c.due("rests(5)", x.rests(5), 0);
                c.due("half of 4 is 2; who has 2 more than 1 has 2", has(4, 0, 1) * 10 + has(4, 2, 1), 22);
                c.due("rests(4)", x.rests(4), 2);
            });
        e.edge(39, "Pairs by which neither would have more by another number alone: how many; the ROW: the least (nothing without).", c -> {
            MountPeers x = new MountPeers();
            c.due("rests(0)", x.rests(0), 1);
            c.dueRow("rests(0)", x, 0, 0);
            c.due("rests(3)", x.rests(3), 2);
            c.dueRow("rests(3)", x, 0, 1);
            c.due("rests(4)", x.rests(4), 2);
            c.dueRow("rests(4)", x, 0, 1);
            c.due("rests(20)", x.rests(20), 0);
            c.dueRow("rests(20)", x);
        });
        e.edge(39, "NONE: another v.", c -> {
            MountPeers x = new MountPeers();
            x.inside(0);
            for (int v : new int[] {-1, 21, Integer.MAX_VALUE, Integer.MIN_VALUE}) {
                c.due("rests(" + v + ")", x.rests(v), -1);
            }
            c.dueRow("refused ones", x, 0, 0);
        });
    }

    private static void dueLaw(Check c, MountPeers x, String rule, int m, int d, int answer, long... row) {
        c.due("law(" + m + ", " + d + ") of " + rule, Check.say(x, rule).law(m, d), answer);
        c.due("signs behind it", x.count(10), 0);
        c.dueRow("law(" + m + ", " + d + ") of " + rule, x, row);
    }

    private static void law(Edges e) {
        e.edge(40, "THE TEXT is another RULE (an empty one: none):", c -> {
            MountPeers x = Worlds.ruled(Worlds.longChain(), "0");
            dueLaw(c, x, "", 1, 0, 3, 4, 1);
            dueLaw(c, x, "i=3", 1, 0, 1, 2, 1);
            c.due("THE RULE stays", x.would(1, 0), 1);
            Worlds.ruled(x, "");
            dueLaw(c, x, "", 1, 0, 0, 4, 4);
        });
        e.edge(40, "how many MOUNTS mounts() at a DIR of a MOUNT would bring by it, less by THE RULE", c -> {
            MountPeers x = Worlds.ruled(Worlds.longChain(), "q=4");
            String state = Check.stateOf(x);
            dueLaw(c, x, "d=0", 1, 0, 2, 4, 2);
            dueLaw(c, x, "d=0", 1, 1, -1, 1, 2);
            dueLaw(c, x, "d=0", 4, 0, 0, 1, 1);
            c.dueState("law()", x, state);
        });
        e.edge(40, "(below 0, too;", c -> {
            MountPeers x = Worlds.longChain();
            dueLaw(c, x, "0", 1, 0, -3, 1, 4);
            dueLaw(c, x, "i=4", 2, 3, -2, 2, 4);
            MountPeers y = Worlds.ruled(Worlds.peers(), "");
            dueLaw(c, y, "0", 1, 0, -1, 1, 2);
        });
        e.edge(40, "one that would be refused: 0); the ROW: both.", c -> {
            MountPeers x = Worlds.peers();
            dueLaw(c, x, "0", 0, 0, 0, 0, 0);
            MountPeers y = Worlds.crowd(14);
            dueLaw(c, y, "1", 5, 0, -1, 0, 1);
            Worlds.ruled(y, "1");
            dueLaw(c, y, "0", 5, 0, 1, 1, 0);
            dueLaw(c, y, "1", 5, 0, 0, 0, 0);
            MountPeers z = Worlds.crowd(13);
            dueLaw(c, z, "1", 5, 0, 9, 10, 1);
            dueLaw(c, Worlds.line(23), "1", 23, 0, 0, 0, 0);
        });
    }

    private static void lawRefused(Edges e) {
        e.edge(40, "-2: none such (asked behind THE TEXT).", c -> {
            MountPeers x = Worlds.peers();
            x.inside(0);
            for (int m : new int[] {3, 24, 32, -1, Integer.MAX_VALUE, Integer.MIN_VALUE}) {
                dueLaw(c, x, "1", m, 0, -2, 2, 1);
                dueLaw(c, x, "1+", m, 0, -10002, 2, 1);
            }
            for (int d : new int[] {4, -1, Integer.MAX_VALUE, Integer.MIN_VALUE}) {
                dueLaw(c, x, "", 1, d, -2, 2, 1);
                dueLaw(c, x, "z", 1, d, -10000, 2, 1);
            }
        });
        e.edge(40, "-10000 - p: the sign at p can't stand there (as rule()).", c -> {
            MountPeers x = Worlds.peers();
            x.inside(0);
            dueLaw(c, x, "z", 1, 0, -10000, 2, 1);
            dueLaw(c, x, "1z", 1, 0, -10001, 2, 1);
            dueLaw(c, x, "1+", 1, 0, -10002, 2, 1);
            dueLaw(c, x, "(", 1, 0, -10001, 2, 1);
            dueLaw(c, x, "-".repeat(40), 1, 0, -10040, 2, 1);
            dueLaw(c, x, "-".repeat(40) + "1", 1, 0, -10040, 2, 1);
            dueLaw(c, x, "-".repeat(80), 1, 0, -10040, 2, 1);
            dueLaw(c, x, "-".repeat(39) + "1", 1, 0, -1, 1, 2);
        });
    }

    /** R without sign, as the document tells it. */
    private static int draw(long[] r, int n) {
        r[0] = (r[0] * 1103515245L + 12345L) & 0xFFFFFFFFL;
        return (int) (r[0] / 65536 % n);
    }

    /** The least seed whose first draws are an act, a mount and a dir; its first R has the highest bit, or has not. */
    private static int seedOf(int act, int mount, int dir, boolean high) {
        for (int seed = 0;; seed++) {
            long[] r = {seed};
            int first = draw(r, 6);
            boolean is = first == act && r[0] >= 0x80000000L == high;
            if (is && draw(r, 24) == mount && draw(r, 4) == dir) {
                return seed;
            }
        }
    }

    /** As years(), by the calls themselves. */
    private static int drawn(MountPeers x, int seed, int n) {
        long[] r = {seed};
        int done = 0;
        for (int i = 0; i < n; i++) {
            int act = draw(r, 6);
            int m = draw(r, 24);
            int d = draw(r, 4);
            int answer = act < 3 ? x.mounts(m, d) : act == 3 ? x.makes(m, 1)
                : act == 4 ? x.binds(draw(r, 24), m, d) : x.unmounts(m, d);
            done += answer < 0 ? 0 : 1;
        }
        return done;
    }

    private static void dueYears(Check c, MountPeers x, MountPeers other, int seed, int n) {
        int done = drawn(other, seed, n);
        c.due("years(" + seed + ", " + n + ")", x.years(seed, n), Integer.bitCount(other.count(0)));
        c.dueRow("years(" + seed + ", " + n + ")", x, other.groups(), done);
        c.dueState("years(" + seed + ", " + n + ")", x, Check.stateOf(other));
    }

    private static void years(Edges e) {
        e.edge(41, "n times (1 .. 40): a DRAW of 6, a DRAW of 24 a MOUNT, a DRAW of 4 a DIR:", c -> {
            MountPeers x = new MountPeers();
            MountPeers y = new MountPeers();
            for (int n = 1; n <= 40; n++) {
                dueYears(c, x, y, 1000 * n, n);
            }
        });
        e.edge(41, "0, 1, 2: mounts();", c -> {
            for (int act = 0; act <= 2; act++) {
                MountPeers x = new MountPeers();
                c.due("act " + act, x.years(seedOf(act, 0, 3, true), 1), 2);
                c.dueRow("act " + act, x, 0, 1);
                c.due("at d of ROOT", x.at(0, 3), 1);
            }
        });
        e.edge(41, "3: makes() of KIND 1;", c -> {
            MountPeers x = new MountPeers();
            c.due("of ROOT", x.years(seedOf(3, 0, 2, true), 1), 1);
            c.dueRow("of ROOT", x, 1, 1);
            c.due("kind of ROOT", x.mount(0, 4), 1);
        });
        e.edge(41, "4: a DRAW of 24 another one: binds() of it;", c -> {
            MountPeers y = Worlds.crowd(11);
            MountPeers z = Worlds.crowd(11);
            for (int seed = 0; seed < 300; seed += 7) {
                long[] r = {seed};
                if (draw(r, 6) == 4) {
                    dueYears(c, y, z, seed, 1);
                }
            }
            c.due("some were bound", Integer.bitCount(y.count(0)) > 12, true);
        });
        e.edge(41, "5: unmounts() (what is refused is not done):", c -> {
            MountPeers x = Worlds.after("mc.");
            c.due("at c of ROOT", x.years(seedOf(5, 0, 2, true), 1), 1);
            c.dueRow("at c of ROOT", x, 0, 1);
            c.due("nothing is there", x.years(seedOf(5, 0, 2, false), 1), 1);
            c.dueRow("nothing is there", x, 0, 0);
            c.due("acts", x.count(4), 2);
            c.due("can be undone: mounts() of a day, and unmounts()", x.count(8), 2);
        });
        e.edge(41, "how many MOUNTS are there then; the ROW: GROUPS then, ACTS that were done in these.", c -> {
            MountPeers x = Worlds.longChain();
            MountPeers y = Worlds.longChain();
            for (int seed : new int[] {5, -5, 77, 1 << 30}) {
                dueYears(c, x, y, seed, 40);
            }
        });
        e.edge(41, "NONE: another n.", c -> {
            MountPeers x = Worlds.longChain();
            x.inside(0);
            String state = Check.stateOf(x);
            for (int n : new int[] {0, -1, 41, Integer.MAX_VALUE, Integer.MIN_VALUE}) {
                c.due("years(1, " + n + ")", x.years(1, n), -1);
            }
            c.dueState("refused ones", x, state);
            c.dueRow("refused ones", x, 4, 1);
        });
    }

    private static void draws(Edges e) {
        e.edge(41, "A DRAW of n: R = R times 1103515245 + 12345 (as ints; R is seed at first),", c -> {
            long[] r = {1};
            c.due("16838 % 6, by hand", draw(r, 6), 2);
            c.due("R, by hand", r[0], 1103527590L);
            for (int seed : new int[] {0, 1, 2, -1, Integer.MAX_VALUE, Integer.MIN_VALUE, 1103515245, -12345}) {
                dueYears(c, new MountPeers(), new MountPeers(), seed, 40);
            }
            MountPeers x = new MountPeers();
            MountPeers y = new MountPeers();
            dueYears(c, x, y, 9, 40);
            dueYears(c, x, y, 9, 40);
        });
        e.edge(41, "(R without sign, by 65536) % n.", c -> {
            for (boolean high : new boolean[] {false, true}) {
                for (int act = 0; act <= 3; act++) {
                    MountPeers x = new MountPeers();
                    x.years(seedOf(act, 0, 1, high), 1);
                    c.due("the highest bit of R, act " + act, x.row(1), 1);
                }
            }
        });
    }
}

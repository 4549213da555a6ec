/** Promises 29 to 36: what was heard, what was seen, and what to ask. */
public final class GuessPromisesTest {
    private static final Check C = new Check("GuessPromisesTest");

    /** 1, 2: peers at a, b of ROOT; 3, 4 at d of them; 5 at c of ROOT, unbindable. */
    private static MountPeers some() {
        MountPeers x = new MountPeers();
        C.due("some", Check.say(x, "ma.k1a.ba:b.mad.mc.k3c.").day(), 6);
        return x;
    }

    private static void promise29Heard() {
        MountPeers x = some();
        int[] most = {4, 9, 4, 4, 9};
        for (int what = 0; what < 5; what++) {
            C.due("heard(" + what + ", -1)", x.heard(what, -1), -1);
            C.due("heard(" + what + ", most + 1)", x.heard(what, most[what] + 1), -1);
            C.due("heard(" + what + ", 0)", x.heard(what, 0), 2 * what + 1);
            C.due("heard(" + what + ", most)", x.heard(what, most[what]), 2 * what + 2);
        }
        C.due("heard(-1, 0)", x.heard(-1, 0), -1);
        C.due("heard(5, 0)", x.heard(5, 0), -1);
        C.due("count(6)", x.count(6), 10);
        C.due("the eleventh", x.heard(1, 0), 11);
        C.due("the twelfth", x.heard(1, 0), 12);
        C.due("the thirteenth", x.heard(1, 0), -1);
        C.due("count(6) of twelve", x.count(6), 12);
        C.dueRow("heard() tells no row", x, 0, 6);
    }

    private static void promise30Forget() {
        MountPeers x = some();
        C.due("forget() of none", x.forget(), 0);
        x.heard(0, 0);
        x.heard(0, 1);
        C.due("fits()", x.fits(), 0);
        C.due("forget()", x.forget(), 2);
        C.due("count(6)", x.count(6), 0);
        C.due("fits() behind it", x.fits(), 63);
        C.due("heard() behind it", x.heard(0, 0), 1);
        C.due("fits() of that", x.fits(), 1);
    }

    private static void dueFits(int what, int v, int want) {
        MountPeers x = some();
        x.heard(what, v);
        C.due("fits() of heard(" + what + ", " + v + ")", x.fits(), want);
        C.dueRow("fits()", x, Integer.bitCount(want));
    }

    private static void promise31Fits() {
        dueFits(0, 0, 1);
        dueFits(0, 1, 2 | 4 | 8 | 16);
        dueFits(0, 2, 0);
        dueFits(0, 3, 32);
        dueFits(1, 0, 63);
        dueFits(1, 1, 62);
        dueFits(1, 2, 24);
        dueFits(1, 3, 0);
        dueFits(2, 0, 2);
        dueFits(2, 1, 4);
        dueFits(2, 2, 32);
        dueFits(2, 3, 24);
        dueFits(2, 4, 1);
        dueFits(3, 0, 8 | 16 | 32);
        dueFits(3, 1, 6);
        dueFits(3, 3, 1);
        dueFits(4, 0, 63);
        dueFits(4, 1, 2 | 4 | 8 | 16);
        dueFits(4, 2, 0);
        MountPeers x = some();
        C.due("nothing heard", x.fits(), 63);
        x.heard(0, 1);
        x.heard(1, 2);
        C.due("two heard", x.fits(), 24);
        x.unmounts(1, 3);
        C.due("as it is now", x.fits(), 0);
        C.dueRow("as it is now", x, 0);
    }

    private static void promise32Asks() {
        MountPeers x = new MountPeers();
        C.due("ROOT alone: of equal ones the least", x.asks(), 0);
        C.dueRow("ROOT alone", x, 1);
        x = some();
        C.due("asks() of six", x.asks(), 30);
        C.dueRow("asks() of six", x, 3);
        x.heard(0, 1);
        C.due("asks() of 1, 2, 3, 4", x.asks(), 12);
        C.dueRow("asks() of 1, 2, 3, 4", x, 2);
        x.heard(1, 2);
        C.due("asks() of 3, 4: none parts them", x.asks(), 0);
        C.dueRow("asks() of 3, 4", x, 2);
        x.heard(0, 0);
        C.due("none fits", x.asks(), -2);
        C.dueRow("none fits", x, 2);
        x.forget();
        x.heard(3, 1);
        C.due("asks() of 1, 2: by dir", x.asks(), 20);
        C.dueRow("asks() of 1, 2", x, 1);
        MountPeers y = new MountPeers();
        C.due("kinds 0, 1, 4, 4", Check.say(y, "ma.k1a.ba:b.ba:c.k2b.k2c.k1b.k1c.").day(), 8);
        C.due("asks() by the last kind", y.asks(), 4);
        C.dueRow("asks() by the last kind", y, 2);
    }

    private static void promise33Saw() {
        MountPeers x = new MountPeers();
        C.due("saw(0, 0, 0)", x.saw(0, 0, 0), 1);
        C.due("saw(9, 4, 1)", x.saw(9, 4, 1), 2);
        for (int[] bad : new int[][] {{-1, 0, 0}, {10, 0, 0}, {0, -1, 0}, {0, 5, 0}, {0, 0, -1}, {0, 0, 2}}) {
            C.due("saw(" + bad[0] + ", " + bad[1] + ", " + bad[2] + ")", x.saw(bad[0], bad[1], bad[2]), -1);
        }
        for (int i = 3; i <= 10; i++) {
            C.due("saw() " + i, x.saw(1, 1, 1), i);
        }
        C.due("saw() 11", x.saw(1, 1, 1), -1);
        C.due("count(7)", x.count(7), 10);
    }

    private static void promise34Denies() {
        MountPeers x = new MountPeers();
        C.due("denies() of none", x.denies(), 0);
        x.saw(0, 0, 0);
        x.saw(0, 0, 1);
        C.due("laws()", x.laws(), 0);
        C.due("denies()", x.denies(), 2);
        C.due("count(7)", x.count(7), 0);
        C.due("laws() behind it", x.laws(), 35);
        C.due("saw() behind it", x.saw(0, 0, 1), 1);
        C.due("laws() of that: b is 0", x.laws(), 7);
    }

    private static void promise35Laws() {
        MountPeers x = new MountPeers();
        C.due("nothing seen", x.laws(), 35);
        C.dueRow("nothing seen", x, 0, 0);
        x.saw(3, 2, 1);
        C.due("a from 3 on, b up to 2", x.laws(), 12);
        C.dueRow("a from 3 on, b up to 2", x, 3, 0);
        x.saw(3, 0, 0);
        C.due("b is not 0", x.laws(), 8);
        C.dueRow("b is not 0", x, 3, 1);
        x.saw(5, 4, 0);
        C.due("a is below 5", x.laws(), 4);
        x.saw(9, 0, 1);
        C.due("no law has 9 steps", x.laws(), 0);
        C.dueRow("no law has 9 steps", x);
        MountPeers y = new MountPeers();
        y.saw(6, 4, 1);
        C.due("a is 6", y.laws(), 5);
        C.dueRow("a is 6", y, 6, 0);
        y.saw(6, 3, 0);
        C.due("and b is 4", y.laws(), 1);
        C.dueRow("and b is 4", y, 6, 4);
    }

    private static void promise36Looks() {
        MountPeers x = new MountPeers();
        C.due("looks() of all 35", x.looks(), 12);
        C.dueRow("looks() of all 35: 6 * 3 and 17", x, 18);
        x.saw(6, 4, 1);
        C.due("looks() of a 6: b by two and three", x.looks(), 1);
        C.dueRow("looks() of a 6", x, 3);
        x.saw(0, 1, 0);
        C.due("looks() of b 2, 3, 4", x.looks(), 2);
        C.dueRow("looks() of b 2, 3, 4", x, 2);
        x.saw(6, 4, 0);
        C.due("none fits", x.looks(), -2);
        C.dueRow("none fits", x, 2);
    }

    public static void main(String[] args) {
        promise29Heard();
        promise30Forget();
        promise31Fits();
        promise32Asks();
        promise33Saw();
        promise34Denies();
        promise35Laws();
        promise36Looks();
        C.end();
    }
}

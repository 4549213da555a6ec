/** Promises 1 to 8: a new object, texts, rules, paths, what is told of a mount, sheets. */
public final class TextPromisesTest {
    private static final Check C = new Check("TextPromisesTest");

    /** 1 and 2 are peers (group 1) at a and b of ROOT; three acts. */
    private static MountPeers peers() {
        MountPeers x = new MountPeers();
        x.mounts(0, 0);
        x.makes(1, 1);
        x.binds(1, 0, 1);
        return x;
    }

    private static void promise1NewObject() {
        MountPeers x = new MountPeers();
        long[] counts = {1, 0, 0, 0, 0, 1, 0, 0, 0, 0, 0};
        for (int i = 0; i < counts.length; i++) {
            C.due("new: count(" + i + ")", x.count(i), counts[i]);
        }
        long[] root = {24, 4, 0, 0, 0, 0};
        for (int i = 0; i < root.length; i++) {
            C.due("new: mount(0, " + i + ")", x.mount(0, i), root[i]);
        }
        for (int d = 0; d < 4; d++) {
            C.due("new: at(0, " + d + ")", x.at(0, d), 24);
        }
        C.due("new: undo()", x.undo(), -1);
        C.due("new: again(0)", x.again(0), false);
        C.due("new: laws()", x.laws(), 35);
        x.mounts(0, 0);
        C.due("another new one: count(0)", new MountPeers().count(0), 1);
        C.due("NONE", MountPeers.NONE, -1);
    }

    private static void promise2Sign() {
        MountPeers x = new MountPeers();
        x.mounts(0, 0);
        x.mounts(1, 1);
        C.due("sign of abcd", x.sign(0x61626364), 4);
        C.due("end(3)", x.end(3), true);
        C.due("place of abc, highest byte first", x.place(), 202);
        for (int i = 1; i <= 20; i++) {
            C.due("sign " + i, x.sign(-1), 4 * i);
        }
        C.due("sign beyond 80", x.sign(0), -1);
        C.due("count(10)", x.count(10), 80);
        x.end(77);
        C.due("sign at 77", x.sign(0), -1);
        C.due("count(10) of a refused one", x.count(10), 77);
        x.end(76);
        C.due("sign at 76", x.sign(0), 80);
        x.end(0);
        C.due("sign(-1) has signs 255", x.sign(-1), 4);
        C.due("place of 255", x.place(), -1);
    }

    private static void promise3End() {
        MountPeers x = new MountPeers();
        C.due("end(0) of none", x.end(0), true);
        C.due("end(1) of none", x.end(1), false);
        C.due("end(-1) of none", x.end(-1), false);
        x.sign(0x61610000);
        C.due("end(5) of 4", x.end(5), false);
        C.due("end(-1) of 4", x.end(-1), false);
        C.due("end(min)", x.end(Integer.MIN_VALUE), false);
        C.due("end(max)", x.end(Integer.MAX_VALUE), false);
        C.due("count(10)", x.count(10), 4);
        C.due("end(4) of 4", x.end(4), true);
        C.due("end(1) of 4", x.end(1), true);
        C.due("count(10) behind end(1)", x.count(10), 1);
        C.due("end(2) of 1", x.end(2), false);
        C.due("sign goes on behind the end", x.sign(0x2E2E2E2E), 5);
        C.due("place of a....", x.place(), -2);
    }

    private static void wrongAt(String rule, int p) {
        MountPeers x = Check.say(new MountPeers(), rule);
        C.due("rule() of " + rule, x.rule(), -1 - p);
        C.due("signs behind rule() of " + rule, x.count(10), 0);
        C.due("law() of " + rule, Check.say(x, rule).law(0, 0), -10000 - p);
    }

    private static void right(String rule) {
        C.due("rule() of " + rule, Check.say(new MountPeers(), rule).rule(), 0);
    }

    private static String times(String s, int n) {
        return s.repeat(n);
    }

    private static void promise4RuleTexts() {
        for (String s : new String[] {"", "1", "n", "123", "007", "-1", "----q", "1--1", "1*-1", "(1)", "((((1))))",
            "1<2", "(1<2)<3", "(1<2)=(3>4)", "1<2+3*4", "-(n+k)*g/i-d+w=q", "((1))+((2))",
            times("1+", 19) + "10", times("-", 39) + "1"}) {
            right(s);
        }
        wrongAt("z", 0);
        wrongAt("+", 0);
        wrongAt("+1", 0);
        wrongAt("*n", 0);
        wrongAt(")", 0);
        wrongAt("<1", 0);
        wrongAt(" 1", 0);
        wrongAt("N", 0);
        wrongAt("~1", 0);
        wrongAt("1~1", 1);
        wrongAt("" + (char) 233, 0);
        wrongAt("1" + (char) 0, 1);
        wrongAt("1000", 3);
        wrongAt("12n", 2);
        wrongAt("n1", 1);
        wrongAt("nk", 1);
        wrongAt("(1)2", 3);
        wrongAt("(1)n", 3);
        wrongAt("(1)(", 3);
        wrongAt("1)", 1);
        wrongAt("(1))", 3);
        wrongAt("()", 1);
        wrongAt("(-)", 2);
        wrongAt("1+*2", 2);
        wrongAt("1<2<3", 3);
        wrongAt("1<2+3=4", 5);
        wrongAt("(1<2<3)", 4);
        wrongAt("(1<2)<3<4", 7);
        wrongAt("(((((1", 4);
        wrongAt("((((1))))+(((((1", 14);
        wrongAt("n+", 2);
        wrongAt("-", 1);
        wrongAt("(", 1);
        wrongAt("(1", 2);
        wrongAt("(1+(2)", 6);
        wrongAt("1<", 2);
        wrongAt(times("1+", 20), 40);
        wrongAt(times("-", 40), 40);
        wrongAt(times("1+", 20) + "1", 40);
        wrongAt(times("1+", 20) + "z", 40);
        wrongAt(times("1+", 40), 40);
        wrongAt("(" + times("1+", 19) + "1)", 40);
        wrongAt(times("1+", 19) + "1z1", 39);
        wrongAt(times("1+", 19) + "zz1", 38);
    }

    private static void lets(String rule, int dir, boolean want) {
        MountPeers x = Check.say(peers(), rule);
        C.due("rule() of " + rule, x.rule(), 0);
        C.due("would(1, " + dir + ") by " + rule, x.would(1, dir), want ? 2 : 1);
    }

    private static void promise4RuleValues() {
        for (String s : new String[] {"n=1", "k=0", "g=2", "i=2", "d=3", "w=3", "q=1", "2+3*4=14", "(2+3)*4=20", "7/2=3",
            "-7/2=-3", "7/-2=-3", "5/0=0", "10-3-2=5", "100/5/2=10", "2*3/4=1", "7-2*3=1", "--1=1", "---1=-1", "-1<0", "2>1",
            "1+1>1", "1", "999", "n", "g-1", "-k+1", "(1<2)=1", "(2<1)=0", "(2>1)=1", "(1>2)=0", "(3=3)=1", "(3=4)=0", "2*-3=-6", "1--1=2",
            "1-(2-3)=2", "-(1-2)", "0-0=0", "005=5", "((((1))))"}) {
            lets(s, 3, true);
        }
        for (String s : new String[] {"0", "-1", "k", "n-1", "1<1", "1>1", "1=2", "-g", "1/2", "0*9", "g/0", "d-3", "d=2"}) {
            lets(s, 3, false);
        }
        int wrapped = 999 * 999 * 999 * 999;
        lets("999*999*999*999", 0, wrapped > 0);
        lets("-(999*999*999*999)", 0, -wrapped > 0);
        lets("999*999*999*999/9", 0, wrapped / 9 > 0);
        lets("999*999*999+999*999*999>0", 0, 999 * 999 * 999 + 999 * 999 * 999 > 0);
        lets("d", 0, false);
        lets("d", 1, true);
    }

    private static void promise4RuleKept() {
        MountPeers x = Check.say(peers(), "0");
        C.due("rule 0", x.rule(), 0);
        C.due("would by 0", x.would(1, 0), 1);
        C.due("a wrong rule", Check.say(x, "1+").rule(), -3);
        C.due("would by the rule that stays", x.would(1, 0), 1);
        x.keep(0);
        C.due("no rule", Check.say(x, "").rule(), 0);
        C.due("would by none", x.would(1, 0), 2);
        x.again(0);
        C.due("again() brings no rule back", x.would(1, 0), 2);
        x.end(0);
        C.due("0 * the 7th act: w goes by 7", Check.say(x, "w=0").rule(), 0);
        for (int i = 4; i <= 7; i++) {
            x.makes(0, 0);
        }
        C.due("would with 7 acts", x.would(1, 0), 2);
        x.makes(0, 0);
        C.due("would with 8 acts", x.would(1, 0), 1);
        C.due("k of one that is parent of two", Check.say(x, "k=2").rule(), 0);
        x.binds(1, 2, 2);
        x.mounts(2, 3);
        C.due("count(0)", x.count(0), 1 | 2 | 4 | 8 | 16);
    }

    private static void promise5Place() {
        MountPeers x = new MountPeers();
        for (int m = 0; m < 13; m++) {
            x.mounts(m, m % 2);
        }
        C.due("place of none", Check.say(x, "").place(), -1);
        C.due("place of d", Check.say(x, "d").place(), 3);
        C.dueRow("place of d", x, 24);
        C.due("place of a", Check.say(x, "a").place(), 0);
        C.dueRow("place of a", x, 1);
        C.due("signs behind place()", x.count(10), 0);
        C.due("place of abc", Check.say(x, "abc").place(), 202);
        C.dueRow("place of abc", x, 24);
        C.due("place of 12 letters", Check.say(x, "abababababab").place(), 1101);
        C.dueRow("place of 12 letters", x, 12);
        C.due("place of 13 letters", Check.say(x, "ababababababa").place(), -13);
        C.due("place of a thirteenth sign", Check.say(x, "abababababab.").place(), -13);
        C.dueRow("refused ones", x, 12);
        C.due("signs behind a refused place()", x.count(10), 0);
        C.due("place of e", Check.say(x, "e").place(), -1);
        C.due("place of A", Check.say(x, "A").place(), -1);
        C.due("place of abx", Check.say(x, "abx").place(), -3);
        C.due("place of aab", Check.say(x, "aab").place(), -3);
        C.due("place of aax", Check.say(x, "aax").place(), -3);
        C.due("place of ba", Check.say(x, "ba").place(), -2);
        C.due("place of bx", Check.say(x, "bx").place(), -2);
    }

    private static void promise6Mount() {
        MountPeers x = peers();
        x.binds(1, 2, 3);
        x.makes(2, 2);
        x.makes(2, 1);
        x.makes(0, 3);
        long[][] due = {{24, 4, 0, 0, 3, 0}, {0, 0, 1, 0, 1, 1}, {0, 1, 2, 1, 4, 1}, {2, 3, 1, 0, 1, 2}, {1, 3, 1, 0, 1, 2}};
        for (int m = 0; m < due.length; m++) {
            for (int what = 0; what < 6; what++) {
                C.due("mount(" + m + ", " + what + ")", x.mount(m, what), due[m][what]);
            }
        }
        for (int[] bad : new int[][] {{5, 0}, {24, 0}, {-1, 0}, {0, 6}, {0, -1}, {Integer.MAX_VALUE, 2}, {Integer.MIN_VALUE, 2}, {32, 0}}) {
            C.dueNone("mount(" + bad[0] + ", " + bad[1] + ")", () -> x.mount(bad[0], bad[1]));
        }
    }

    private static void promise7At() {
        MountPeers x = peers();
        x.mounts(2, 3);
        C.due("at(0, 0)", x.at(0, 0), 1);
        C.due("at(0, 1)", x.at(0, 1), 2);
        C.due("at(0, 2)", x.at(0, 2), 24);
        C.due("at(1, 3)", x.at(1, 3), 4);
        C.due("at(2, 3)", x.at(2, 3), 3);
        C.due("at(4, 0)", x.at(4, 0), 24);
        for (int[] bad : new int[][] {{5, 0}, {24, 0}, {-1, 0}, {0, 4}, {0, -1}, {0, Integer.MAX_VALUE}, {33, 1}}) {
            C.dueNone("at(" + bad[0] + ", " + bad[1] + ")", () -> x.at(bad[0], bad[1]));
        }
    }

    /** ROOT, 1 (group), 2, 4 are there; 3 is not. */
    private static MountPeers forSheets() {
        MountPeers x = new MountPeers();
        for (int d = 0; d < 4; d++) {
            x.mounts(0, d);
        }
        x.makes(1, 1);
        x.unmounts(0, 2);
        return x;
    }

    private static void promise8Sheet() {
        MountPeers x = forSheets();
        C.due("ints 1, 1, 1, 1", x.sheet(2, 4, 1, 0), 3);
        C.due("count(3)", x.count(3), 1 | 4 | 16);
        C.due("one entry", x.sheet(2, 1, 1, 0), 1);
        C.due("those behind it are not", x.count(3), 1);
        C.due("no entry", x.sheet(2, 0, 1, 0), 0);
        C.due("-1, 0, 1, 2: a passed one uses its entry up", x.sheet(2, 4, -1, 1), 2);
        C.due("count(3) of it", x.count(3), 4 | 16);
        C.due("1, 0, -1, -2", x.sheet(2, 24, 1, -1), 1);
        C.due("count(3) of 1, 0, -1, -2", x.count(3), 1);
        C.due("bytes 127, 128, 129, 130", x.sheet(0, 4, 127, 1), 1);
        C.due("count(3) of bytes", x.count(3), 1);
        C.due("bytes 256", x.sheet(0, 4, 256, 0), 0);
        C.due("bytes 257", x.sheet(0, 4, 257, 0), 3);
        C.due("shorts 32767, 32768, ..", x.sheet(1, 4, 32767, 1), 1);
        C.due("shorts 128", x.sheet(1, 4, 128, 0), 3);
        C.due("shorts 65536", x.sheet(1, 4, 65536, 0), 0);
        C.due("ints 65536", x.sheet(2, 4, 65536, 0), 3);
        C.due("ints that wrap", x.sheet(2, 4, Integer.MAX_VALUE, 1), 1);
        C.due("acts are not counted", x.count(4), 6);
        C.due("nothing more can be undone", x.count(8), 6);
        x.sheet(2, 4, 1, 0);
        C.due("n below 0", x.sheet(1, -1, 1, 1), -2);
        C.due("another kind", x.sheet(4, 1, 1, 1), -1);
        C.due("another kind below 0", x.sheet(-1, -1, 1, 1), -1);
        C.due("n above 24", x.sheet(0, 25, 0, 0), -1);
        C.due("n above 24 of kind 3", x.sheet(3, 25, 0, 0), -1);
        C.due("nothing changed", x.count(3), 1 | 4 | 16);
        C.due("missing", x.sheet(3, -7, 1, 1), -3);
        C.due("none is", x.count(3), 0);
        x.sheet(2, 24, 1, 0);
        C.due("undo()", x.undo(), 5);
        C.due("undo() brings that back, too", x.count(3), 0);
        C.dueRow("sheets tell no row", x, 8);
    }

    private static void promise8SheetOfSlaves() {
        MountPeers x = peers();
        x.makes(2, 2);
        C.due("one with a master is passed by", x.sheet(2, 24, 1, 0), 1);
        C.due("count(3)", x.count(3), 1);
        C.due("kind of it", x.mount(2, 4), 2);
    }

    public static void main(String[] args) {
        promise1NewObject();
        promise2Sign();
        promise3End();
        promise4RuleTexts();
        promise4RuleValues();
        promise4RuleKept();
        promise5Place();
        promise6Mount();
        promise7At();
        promise8Sheet();
        promise8SheetOfSlaves();
        C.end();
    }
}

/** Promises 44 to 50: asked, upper, lower, count, finding, findings, digest. */
public final class ToldTest {
    public static void main(String[] args) {
        parts();
        counts();
        findings();
        digests();
        Check.end();
    }

    private static void parts() {
        LampCave x = Check.in("wr09 p5009 p4009");
        Check.due("upper() of 9 / 90", x.upper(), 1);
        Check.due("lower() of 9 / 90", x.lower(), 10);
        x.fear(0, 0);
        x.fear(1, 0);
        Check.due("upper() of 0 / 90", x.upper(), 0);
        Check.due("lower() of 0 / 90", x.lower(), 1);
        x.fear(0, 99);
        x.fear(1, 81);
        Check.due("upper() of 180 / 90", x.upper(), 2);
        Check.due("lower() of 180 / 90", x.lower(), 1);
        x.fear(1, 2);
        Check.due("upper() of 101 / 90", x.upper(), 101);
        Check.due("lower() of 101 / 90", x.lower(), 90);
    }

    private static void counts() {
        LampCave x = Check.in("wr03 p9001 c1009 s1009 g1009 k1009");
        Check.due("count(-1)", x.count(-1), Check.BAD);
        Check.due("count(8)", x.count(8), Check.BAD);
        x.row(3, 0);
        x.row(4, 1);
        x.keep(0);
        int[] due = {5, 0, 30, 3, 1, 1, 2, 1};
        for (int what = 0; what <= 7; what++) {
            Check.due("count(" + what + ")", x.count(what), due[what]);
        }
        x.fear(0, 0);
        x.minutes(4);
        Check.due("count(1)", x.count(1), 4);
        Check.due("count(2)", x.count(2), 26);
        Check.due("count(4)", x.count(4), 0);
    }

    private static void findings() {
        LampCave x = new LampCave();
        Check.due("findings(0)", x.findings(0), Check.BAD);
        Check.due("findings(6)", x.findings(6), Check.BAD);
        x.row(0, -1);
        x.row(0, 0);
        x.mean(0);
        x.at(0, 0);
        x.at(0, 0);
        x.tear(1);
        int[] due = {1, 2, 0, 1, 1};
        for (int f = 1; f <= 5; f++) {
            Check.due("findings(" + f + ")", x.findings(f), due[f - 1]);
        }
        Check.due("finding()", x.finding(), Check.NOTHING);
        x.row(9, 9);
        Check.due("finding() behind BAD", x.finding(), Check.NOTHING);
    }

    private static void digests() {
        LampCave x = Check.in("wo11 l9119 g0119 p2119");
        Check.write(x, 3, "ab" + (char) 200);
        Check.layRow(x, 1, -5, 7);
        x.hand(2);
        x.keep(1);
        x.minutes(1);
        x.row(2, 0);
        x.at(1, 1);
        long h = 17;
        // 0 had it by turns behind 2; the GUIDE sits BESIDE both others, all sit BESIDE one another.
        int[] due = {3, 2, 8, 1, 0, 1, 2, 2, 1, 1,
            3, 6, 1, 1, 45, 15, 5, 0, 1, 1, 45, -1, 0, 0, 1, 1, 45, 0,
            2, 0, -1, 1, -1, -1, 2, -5, 7, 0, -1, -1, -1,
            22, 'w', 'o', '1', '1', ' ', 'l', '9', '1', '1', '9', ' ', 'g', '0', '1', '1', '9', ' ',
            'p', '2', '1', '1', '9', -1, -1, 3, 'a', 'b', -56};
        for (int v : due) {
            h = 31 * h + v;
        }
        Check.due("digest()", x.digest(), h);
        Check.due("asked() stays", x.asked(), 7);
        Check.due("digest() again", x.digest(), h);
    }
}

/** Promises 38 to 43: handings judged, learnt and told; visits. */
public final class HandingsTest {
    public static void main(String[] args) {
        judging();
        judgingOver();
        refusals();
        lying();
        growing();
        fearing();
        telling();
        visits();
        Check.end();
    }

    private static void judging() {
        LampCave x = Check.in("wr01 p5235 k3146 c2219");
        Check.layRow(x, 0, 0, 2, 0);
        Check.due("judge: all by THE LAW", x.judge(0), 3);
        Check.due("not OVER", x.asked(), Check.NONE);
        Check.layRow(x, 0, 0, 1, 0);
        Check.due("judge: the first other", x.judge(0), 1);
        Check.layRow(x, 0, 1, 1, 1);
        Check.due("judge: at once", x.judge(0), 0);
        x.row(0, 0);
        Check.due("judge of none", x.judge(0), 0);
        Check.due("judge of none: not OVER", x.asked(), Check.NONE);
        Check.due("aside", x.count(1), 0);
        // By turns from as it is: 1 had it, so 2 has it next.
        x.law(1);
        x.hand(1);
        Check.layRow(x, 0, 2, 0, 1, 2);
        Check.due("judge by turns", x.judge(0), 4);
    }

    private static void judgingOver() {
        LampCave x = Check.in("wr00 p0401 p0009");
        Check.layRow(x, 0, 0, 0, 0, 1);
        Check.due("judge goes on when OVER", x.judge(0), 3);
        Check.due("OVER behind 2", x.asked(), 2);
        Check.layRow(x, 0, 1, 1, 1, 1);
        Check.due("judge: the first other", x.judge(0), 0);
        Check.due("OVER behind 2 likewise", x.asked(), 2);
        x.fear(0, 5);
        Check.due("judge when OVER", x.judge(0), 0);
        Check.due("OVER behind 0", x.asked(), 0);
        x.row(0, 0);
        Check.due("judge of none when OVER", x.judge(0), 0);
        Check.due("OVER behind 0 of none", x.asked(), 0);
        LampCave full = Check.in("wr19 p0009");
        full.minutes(60);
        full.minutes(60);
        full.row(0, 60);
        Check.due("judge past MINUTE 120", full.judge(0), 60);
    }

    private static void refusals() {
        LampCave x = Check.in("wr01 p5235 k3146 c2219");
        Check.due("judge(6)", x.judge(6), Check.BAD);
        Check.due("liars(-1)", x.liars(-1), Check.BAD);
        Check.due("grows(3, 0)", x.grows(3, 0), Check.BAD);
        Check.due("grows(0, 6)", x.grows(0, 6), Check.BAD);
        Check.due("fears(-1, 0)", x.fears(-1, 0), Check.BAD);
        Check.due("fears(0, -1)", x.fears(0, -1), Check.BAD);
        Check.found("judge(0)", x, x.judge(0), Check.NOTHING);
        Check.found("liars(0)", x, x.liars(0), Check.NOTHING);
        Check.found("grows(0, 0)", x, x.grows(0, 0), Check.NOTHING);
        Check.found("fears(0, 0)", x, x.fears(0, 0), Check.NOTHING);
        x.person(0, 4);
        for (int none : new int[] {3, -1, Integer.MAX_VALUE, Integer.MIN_VALUE}) {
            Check.layRow(x, 0, 1, 1, none);
            x.person(0, 4);
            Check.found("judge of " + none, x, x.judge(0), Check.UNLIKE);
            Check.found("liars of " + none, x, x.liars(0), Check.UNLIKE);
            Check.found("grows of " + none, x, x.grows(0, 0), Check.UNLIKE);
            Check.found("fears of " + none, x, x.fears(0, 0), Check.UNLIKE);
        }
        Check.due("asked() stays", x.asked(), 25);
        Check.due("findings(1)", x.findings(1), 4);
        Check.due("findings(3)", x.findings(3), 16);
    }

    private static void lying() {
        // One handing to 1: only if 1 lies and 0 does not; the GUIDE may not be among them.
        LampCave x = Check.in("wr09 p5009 p3009 g9009 l1009");
        Check.layRow(x, 0, 1);
        Check.due("liars: sets", x.liars(0), 2);
        Check.due("liars: the least", x.asked(), 2);
        Check.layRow(x, 0, 2);
        Check.due("liars: none", x.liars(0), 0);
        Check.due("liars: NONE", x.asked(), Check.NONE);
        x.row(0, 0);
        Check.due("liars of no handings", x.liars(0), 8);
        Check.due("liars of no handings: the least", x.asked(), 0);
        // Behind the first handing 0's FEAR is 0: 9 if 0 lies. Then 1's 8 is less, 1's 17 more.
        LampCave two = Check.in("wr09 p9099 p8009");
        Check.layRow(two, 0, 0, 1);
        Check.due("liars of two handings", two.liars(0), 2);
        Check.due("liars of two handings: the least", two.asked(), 0);
        two.law(1);
        Check.due("liars by turns", two.liars(0), 4);
    }

    private static void growing() {
        // 2 is not BESIDE 0, who has the lamp with 5: to 2 next, if FEAR of 2 is above 5 - 1.
        LampCave x = Check.in("wr09 p5019 p0009 p1219");
        Check.layRow(x, 0, 0, 2);
        Check.due("grows(2, 0)", x.grows(2, 0), 0b1111110000);
        Check.layRow(x, 0, 0, 0);
        Check.due("grows(2, 0) else", x.grows(2, 0), 0b0000001111);
        Check.due("grows(1, 0)", x.grows(1, 0), 0b1111111111);
        Check.layRow(x, 0, 1);
        Check.due("grows(2, 0) never", x.grows(2, 0), 0);
        Check.told("GROWS stays", x, x.person(2, 2), 2);
    }

    private static void fearing() {
        LampCave x = Check.in("wr09 p5019 p0009 p1219");
        x.fear(1, 44);
        Check.layRow(x, 0, 2);
        Check.due("fears(2, 0) below another's", x.fears(2, 0), 0);
        x.fear(1, 0);
        Check.due("fears(2, 0)", x.fears(2, 0), 0b1111000000);
        Check.due("fears(0, 0)", x.fears(0, 0), 0b0000000001);
        Check.layRow(x, 0, 0);
        Check.due("fears(0, 0) to 0", x.fears(0, 0), 0b1111111110);
        Check.fearsAre("FEAR stays", x, 5, 0, 1);
    }

    private static void telling() {
        LampCave x = Check.in("wr01 p5235 k3146 c2219");
        Check.due("tell(4, 1, 0)", x.tell(4, 1, 0), Check.BAD);
        Check.due("tell(-1, 1, 0)", x.tell(-1, 1, 0), Check.BAD);
        Check.due("tell(0, 61, 0)", x.tell(0, 61, 0), Check.BAD);
        Check.due("tell(0, -1, 0)", x.tell(0, -1, 0), Check.BAD);
        Check.due("tell(0, 1, 6)", x.tell(0, 1, 6), Check.BAD);
        Check.due("tell(0, 3, 0)", x.tell(0, 3, 0), 3);
        Check.rowIs("tell(0, 3, 0)", x, 0, 0, 2, 0);
        Check.due("tell(1, 4, 0)", x.tell(1, 4, 0), 4);
        Check.rowIs("tell(1, 4, 0)", x, 0, 0, 1, 2, 0);
        Check.due("tell(0, 0, 0)", x.tell(0, 0, 0), 0);
        Check.rowIs("tell(0, 0, 0)", x, 0);
        Check.due("aside", x.count(1), 0);
        LampCave dark = Check.in("wr00 p0401 p0009");
        Check.due("tell(1, 60, 5) till OVER", dark.tell(1, 60, 5), 2);
        Check.rowIs("tell(1, 60, 5) till OVER", dark, 5, 0, 1);
        LampCave still = Check.in("wr00 p0009");
        Check.due("tell(0, 60, 5)", still.tell(0, 60, 5), 60);
    }

    private static void visits() {
        LampCave x = Check.in("wr00 p0101 p0009 p0009");
        Check.due("visit(0, 1)", x.visit(0, 1), Check.BAD);
        Check.due("visit(61, 1)", x.visit(61, 1), Check.BAD);
        Check.due("visit(1, 0)", x.visit(1, 0), Check.BAD);
        Check.due("visit(1, -1)", x.visit(1, -1), Check.BAD);
        Check.due("visit(1, MAX)", x.visit(1, Integer.MAX_VALUE), Check.BAD);
        Check.due("visit(3, 1)", x.visit(3, 1), 3);
        Check.due("visit(3, 1): greatest", x.asked(), 3);
        Check.due("visit(60, 1) till OVER", x.visit(60, 1), 5);
        Check.due("visit(60, 1): greatest", x.asked(), 5);
        Check.due("aside", x.count(1), 0);
        // Lots of seed 1: 48271, 182605794: modulo 3 these are 1, 0. Of seed 2147483646: 2147435376, modulo 3 0.
        LampCave lit = Check.in("wr09 p7039 p0009 p8019");
        Check.due("visit(1, 1)", lit.visit(1, 1), 1);
        Check.due("visit(1, 1): 1 has it", lit.asked(), 8);
        Check.due("visit(1, MAX - 1)", lit.visit(1, Integer.MAX_VALUE - 1), 1);
        Check.due("visit(1, MAX - 1): 0 has it", lit.asked(), 8);
        lit.fear(2, 0);
        lit.visit(1, 1);
        Check.due("visit(1, 1): 1 has it, not 0", lit.asked(), 7);
        lit.visit(2, 1);
        Check.due("visit(2, 1): 0 has it then", lit.asked(), 4);
        lit.visit(1, Integer.MAX_VALUE - 1);
        Check.due("visit(1, MAX - 1): 0 has it at once", lit.asked(), 4);
        lit.fear(1, 50);
        Check.due("visit(5, 1) when OVER", lit.visit(5, 1), 0);
        Check.due("visit(5, 1) when OVER: greatest", lit.asked(), 50);
    }
}

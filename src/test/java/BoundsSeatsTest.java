import java.util.Arrays;

/** Boundary cases of promises 32 to 37: longest, calmest, order, swap, spare, teller. */
public final class BoundsSeatsTest {
    public static void main(String[] args) {
        longestUpToSix();
        longestComesToARow();
        longestRefused();
        calmestUpToSix();
        calmestFirst();
        calmestNone();
        calmestRefused();
        orderOfOneToFive();
        orderLongest();
        orderFromWhoHadIt();
        orderComesToARow();
        orderRefused();
        swapPairs();
        swapNone();
        swapRefused();
        spareBounds();
        spareNone();
        spareRefused();
        tellerFirst();
        tellerRefused();
        Check.end();
    }

    /** In the dark, where FEAR is 1 more in each MINUTE. */
    private static LampCave dark(int fear, int screams) {
        LampCave x = Check.in("wr00 p010" + screams + " p0009");
        x.fear(0, fear);
        return x;
    }

    /** "The most MINUTES (6 at most; 0, if it is OVER now) that it is not OVER behind each". */
    private static void longestUpToSix() {
        int[] fears = {0, 2, 3, 4, 7, 8, 9, 10, 99};
        int[] due = {6, 6, 6, 5, 2, 1, 0, 0, 0};
        for (int k = 0; k < fears.length; k++) {
            LampCave x = dark(fears[k], 2);
            Check.due("longest(5) from " + fears[k], x.longest(5), due[k]);
            Check.rowIs("longest(5) from " + fears[k], x, 5, new int[due[k]]);
            Check.due("longest(5) aside", x.count(1), 0);
        }
        // By whatever handing: 3 or 4 must have it in each MINUTE.
        LampCave all = Check.in("wr09 p0009 p0009 p0009 p0009 p9902");
        Check.due("longest(0) by one handing", all.longest(0), 6);
        Check.rowIs("longest(0) by one handing, the first", all, 0, 3, 3, 3, 3, 3, 3);
        LampCave full = Bounds.livedFull();
        Check.due("longest(0) at MINUTE 120", full.longest(0), 6);
    }

    /** "The first such handing (by numbers) comes to a ROW (anew)": to one that was missing, larger or smaller. */
    private static void longestComesToARow() {
        for (int r = 0; r <= 5; r++) {
            LampCave x = Bounds.lived();
            Check.due("longest(" + r + ")", x.longest(r), 6);
            Check.rowIs("longest(" + r + ")", x, r, 0, 0, 0, 0, 0, 0);
            Check.due("longest(" + r + "), count(6)", x.count(6), r == 4 ? 6 : 5);
            x.fear(0, 45);
            Check.due("longest(" + r + ") when OVER", x.longest(r), 0);
            Check.rowIs("longest(" + r + ") when OVER", x, r);
            x.row(r, 60);
            Check.told("places anew are 0", x, x.at(r, 3), 0);
        }
        // 2 or 3 must have it in each MINUTE, for 3's sake, and so 0 SCREAMS behind the third.
        LampCave by = Check.in("wr09 p0201 p0009 p0009 p4901");
        Check.due("longest(0), the first", by.longest(0), 2);
        Check.rowIs("longest(0), the first", by, 0, 2, 2);
    }

    /** "BAD; STATE: no PEOPLE." */
    private static void longestRefused() {
        for (int r : Bounds.outside(0, 5)) {
            Bounds.refused("longest(" + r + ")", Bounds::lived, x -> x.longest(r), Check.BAD);
            Bounds.refused("longest(" + r + ") without PEOPLE: BAD first", Bounds::empty, x -> x.longest(r), Check.BAD);
        }
        Bounds.refused("longest(0) without PEOPLE", Bounds::empty, x -> x.longest(0), Check.STATE);
        Bounds.refused("longest(4) at first", LampCave::new, x -> x.longest(4), Check.STATE);
    }

    /** "By all handings of n (0 .. 6) MINUTES, none of which is OVER, the least greatest FEAR at the end". */
    private static void calmestUpToSix() {
        for (int n = 0; n <= 6; n++) {
            LampCave x = Check.in("wr09 p9019 p0009");
            Check.due("calmest(" + n + ", 0)", x.calmest(n, 0), 9 - n);
            Check.rowIs("calmest(" + n + ", 0)", x, 0, new int[n]);
            LampCave last = Check.in("wo09 p0009 p0009 p0009 p0009 p9019");
            int[] fours = new int[n];
            Arrays.fill(fours, 4);
            Check.due("calmest(" + n + ", 5)", last.calmest(n, 5), 9 - n);
            Check.rowIs("calmest(" + n + ", 5)", last, 5, fours);
            // Not OVER behind any: 9 of 10 can't be reached behind more than so many.
            LampCave most = dark(9 - n, 2);
            Check.due("calmest(" + n + ", 1) just not OVER", most.calmest(n, 1), 9);
            Check.rowIs("calmest(" + n + ", 1) just not OVER", most, 1, new int[n]);
            Check.due("calmest(" + n + ", 1) just OVER", dark(10 - n, 2).calmest(n, 1), Check.NONE);
        }
    }

    /** "The first such handing": of alike ones; and the least, though a later one. */
    private static void calmestFirst() {
        LampCave x = Check.in("wr09 p1019 p0009 p1019");
        Check.due("calmest(2, 0)", x.calmest(2, 0), 0);
        Check.rowIs("calmest(2, 0)", x, 0, 0, 2);
        Check.due("calmest(3, 0)", x.calmest(3, 0), 0);
        Check.rowIs("calmest(3, 0)", x, 0, 0, 0, 2);
        Check.due("longest(1) ahead of it", x.longest(1), 6);
        Check.due("calmest(1, 0) behind longest(1)", x.calmest(1, 0), 1);
        Check.rowIs("calmest(1, 0) behind longest(1)", x, 0, 0);
        LampCave later = Check.in("wr09 p1009 p0009 p5059");
        Check.due("calmest(1, 0), the last one", later.calmest(1, 0), 1);
        Check.rowIs("calmest(1, 0), the last one", later, 0, 2);
    }

    /** "NONE: none (also, if it is OVER now)": the ROW is as it was. */
    private static void calmestNone() {
        for (int n : new int[] {0, 1, 6}) {
            for (int r : new int[] {0, 1, 4, 5}) {
                Bounds.leavesAll("calmest(" + n + ", " + r + ") when OVER", Bounds::livedOver, x -> x.calmest(n, r), Check.NONE);
            }
        }
        Bounds.leavesAll("calmest(1, 4) of none", () -> dark(9, 2), x -> x.calmest(1, 4), Check.NONE);
    }

    /** "BAD; STATE: no PEOPLE." */
    private static void calmestRefused() {
        for (int r : Bounds.outside(0, 5)) {
            Bounds.refused("calmest(1, " + r + ")", Bounds::lived, x -> x.calmest(1, r), Check.BAD);
            Bounds.refused("calmest(1, " + r + ") when OVER: BAD first", Bounds::livedOver, x -> x.calmest(1, r), Check.BAD);
        }
        for (int n : Bounds.outside(0, 6)) {
            Bounds.refused("calmest(" + n + ", 0)", Bounds::lived, x -> x.calmest(n, 0), Check.BAD);
            Bounds.refused("calmest(" + n + ", 0) without PEOPLE: BAD first", Bounds::empty, x -> x.calmest(n, 0), Check.BAD);
        }
        Bounds.refused("calmest(0, 0) without PEOPLE", Bounds::empty, x -> x.calmest(0, 0), Check.STATE);
        Bounds.refused("calmest(6, 5) without PEOPLE", Bounds::empty, x -> x.calmest(6, 5), Check.STATE);
    }

    /** order(): of one to five, all orders alike: "the first order, by numbers". */
    private static void orderOfOneToFive() {
        for (int many = 1; many <= 5; many++) {
            int[] byNumbers = new int[many];
            for (int who = 0; who < many; who++) {
                byNumbers[who] = who;
            }
            LampCave x = Check.in("wr10" + " p0109".repeat(many));
            Check.due("order(0) of " + many, x.order(0), 45);
            Check.rowIs("order(0) of " + many, x, 0, byNumbers);
            LampCave ever = Check.in("wo10" + " p0009".repeat(many));
            Check.due("order(0) of " + many + " for ever", ever.order(0), Check.NONE);
            Check.rowIs("order(0) of " + many + " for ever", ever, 0, byNumbers);
            x.fear(many - 1, 45);
            Check.due("order(0) of " + many + " when OVER", x.order(0), 0);
            Check.rowIs("order(0) of " + many + " when OVER", x, 0, byNumbers);
        }
    }

    /** "So that it holds() longest by THE LAW (NONE of it longest of all; the first order ..)": the first, a middle, the last. */
    private static void orderLongest() {
        // In the dark, by turns: those whose FEAR grows must sit BESIDE the CALM one.
        orderIs("wr10 p0109 p0109 c0009", 0, 2, 1);
        orderIs("wr10 p0109 c0009 p0109", 0, 1, 2);
        orderIs("wr10 c0009 p0109 p0109", 1, 0, 2);
        orderIs("wo10 p0109 p0109 c0009", 0, 1, 2);
        orderIs("wr10 p0009 p0009 p0109 p0109 c0009", 0, 1, 2, 4, 3);
        orderIs("wr10 p0109 p0009 p0009 p0109 c0009", 0, 4, 3, 1, 2);
        orderIs("wr10 p0009 p0009 c0009 p0109 p0109", 0, 1, 3, 2, 4);
        orderIs("wo10 p0109 p0009 p0009 p0109 c0009", 0, 1, 2, 3, 4);
        // 0 needs a CALM one on both sides.
        orderIs("wr10 p0209 c0009 c0009", 1, 0, 2);
        LampCave x = Check.in("wr10 p0209 p0009 c0009 c0009 p0009");
        Check.due("order(0), 0 between 2 and 3", x.order(0), Check.NONE);
        Check.rowIs("order(0), 0 between 2 and 3", x, 0, 1, 2, 0, 3, 4);
        Check.due("PEOPLE sit as they sat", x.mark(2, 1), 2);
        Check.due("PEOPLE sit as they sat", x.order(1), Check.NONE);
    }

    /** "Who had the lamp has it still": 2, who SHOWS most and keeps it by LAW 2: 0 must sit BESIDE, while there is OIL. */
    private static void orderFromWhoHadIt() {
        LampCave x = Check.in("wr29 p3901 p0009 p9009 p0009");
        Check.due("order(0), nobody had it", x.order(0), 91);
        Check.rowIs("order(0), nobody had it: 0 keeps it", x, 0, 0, 1, 2, 3);
        Check.due("swap(), nobody had it", x.swap(), Check.NONE);
        x.hand(2);
        x.fear(0, 3);
        Check.due("order(0), 2 had it", x.order(0), 90);
        Check.rowIs("order(0), 2 had it", x, 0, 0, 2, 1, 3);
        Check.due("swap(), 2 had it", x.swap(), 1);
        Check.due("swap(), 2 had it, how long", x.asked(), 90);
    }

    private static void orderIs(String cave, int... order) {
        LampCave x = Check.in(cave);
        Check.due("order(3) of '" + cave + "'", x.order(3), Check.NONE);
        Check.rowIs("order(3) of '" + cave + "'", x, 3, order);
    }

    private static void orderComesToARow() {
        for (int r = 0; r <= 5; r++) {
            LampCave x = Bounds.livedOver();
            Check.due("order(" + r + ")", x.order(r), 0);
            Check.rowIs("order(" + r + ")", x, r, 0, 1, 2, 3, 4);
            Check.due("order(" + r + "), count(6)", x.count(6), r == 4 ? 6 : 5);
            Check.due("order(" + r + ") tells nothing by asked()", x.order(r) + x.count(1), 7);
        }
    }

    /** "BAD; STATE: no PEOPLE." */
    private static void orderRefused() {
        for (int r : Bounds.outside(0, 5)) {
            Bounds.refused("order(" + r + ")", Bounds::lived, x -> x.order(r), Check.BAD);
            Bounds.refused("order(" + r + ") without PEOPLE: BAD first", Bounds::empty, x -> x.order(r), Check.BAD);
        }
        Bounds.refused("order(0) without PEOPLE", Bounds::empty, x -> x.order(0), Check.STATE);
        Bounds.refused("order(5) at first", LampCave::new, x -> x.order(5), Check.STATE);
    }

    /** "10 times the lesser number and the greater one; the first": from 0 and 1 to 3 and 4; "how long by asked() (NONE)". */
    private static void swapPairs() {
        swapIs("wr10 c0009 p0109 p0109", 1);
        swapIs("wr10 p0109 p0109 c0009", 12);
        swapIs("wr10 p0009 p0009 p0109 p0109 c0009", 34);
        swapIs("wr10 p0109 p0009 c0009 p0009 p0109", Check.NONE);
        swapIs("wr10 p0109 p0009 p0009 p0009 c0009", 3);
        // Longer, but not for ever: 1 more in each MINUTE instead of 2. 0 and 1, and 1 and 2 do so, 0 and 1 first.
        LampCave x = Check.in("wr10 p0209 p0009 c0009");
        Check.due("swap() for longer", x.swap(), 1);
        Check.due("swap() for longer, how long", x.asked(), 45);
        Check.due("PEOPLE sit as they sat", x.mark(2, 1), 1);
    }

    private static void swapIs(String cave, int pair) {
        LampCave x = Check.in(cave);
        x.person(0, 4);
        Check.due("swap() of '" + cave + "'", x.swap(), pair);
        Check.due("swap() of '" + cave + "', asked()", x.asked(), pair == Check.NONE ? 45 : Check.NONE);
    }

    /** "NONE: fewer than two, or no change makes it longer": as long is not longer. */
    private static void swapNone() {
        for (int many = 1; many <= 5; many++) {
            String people = " p0109".repeat(many);
            Bounds.leavesAll("swap() of " + many + " alike", () -> Check.in("wr10" + people), LampCave::swap, Check.NONE);
        }
        Bounds.leavesAll("swap() of one for ever", () -> Check.in("wr10 p0009"), LampCave::swap, Check.NONE);
        Bounds.leavesAll("swap() of two", () -> Check.in("wo10 p0109 c0009"), LampCave::swap, Check.NONE);
        Bounds.leavesAll("swap() when OVER", Bounds::livedOver, LampCave::swap, Check.NONE);
        Bounds.leavesAll("swap() of what holds for ever", () -> Check.in("wr10 p0109 c0009 p0109"), LampCave::swap, Check.NONE);
    }

    private static void swapRefused() {
        Bounds.refused("swap() without PEOPLE", Bounds::empty, LampCave::swap, Check.STATE);
        Bounds.refused("swap() at first", LampCave::new, LampCave::swap, Check.STATE);
    }

    /** "The least OIL (0 .. 99) by which it holds n (0 .. 60) MINUTES by THE LAW". */
    private static void spareBounds() {
        for (int n : new int[] {0, 1, 2, 59, 60}) {
            // OVER behind the first MINUTE without LIGHT.
            Bounds.leavesAll("spare(" + n + ")", () -> Check.in("wr09 p0901"), x -> x.spare(n), n);
            Bounds.leavesAll("spare(" + n + ") of one as it is", () -> Check.in("wr09 p0009"), x -> x.spare(n), 0);
        }
        // FEAR is n behind n MINUTES in the dark, and 44 at most: so many more need LIGHT.
        LampCave x = Check.in("wr00 p0109");
        Check.due("spare(43)", x.spare(43), 0);
        Check.due("spare(44)", x.spare(44), 0);
        Check.due("spare(45)", x.spare(45), 1);
        Check.due("spare(60)", x.spare(60), 16);
        x.fear(0, 44);
        Check.due("spare(0) just not OVER", x.spare(0), 0);
        Check.due("spare(1) just not OVER", x.spare(1), 1);
    }

    /** "Not OVER now, nor behind any. NONE: none." */
    private static void spareNone() {
        for (int n : new int[] {0, 1, 60}) {
            Bounds.leavesAll("spare(" + n + ") when OVER", Bounds::livedOver, x -> x.spare(n), Check.NONE);
        }
        // 2 is not BESIDE 0, who has the lamp first: FEAR 45 behind 5 MINUTES, OIL or not.
        LampCave never = Check.in("wr09 p9009 p0009 g0909");
        Check.due("spare(4)", never.spare(4), 0);
        Check.due("spare(5)", never.spare(5), Check.NONE);
        Check.due("spare(60)", never.spare(60), Check.NONE);
    }

    /** "BAD; STATE: no PEOPLE." */
    private static void spareRefused() {
        for (int n : Bounds.outside(0, 60)) {
            Bounds.refused("spare(" + n + ")", Bounds::lived, x -> x.spare(n), Check.BAD);
            Bounds.refused("spare(" + n + ") when OVER: BAD first", Bounds::livedOver, x -> x.spare(n), Check.BAD);
            Bounds.refused("spare(" + n + ") without PEOPLE: BAD first", Bounds::empty, x -> x.spare(n), Check.BAD);
        }
        Bounds.refused("spare(0) without PEOPLE", Bounds::empty, x -> x.spare(0), Check.STATE);
        Bounds.refused("spare(60) without PEOPLE", Bounds::empty, x -> x.spare(60), Check.STATE);
    }

    /** "Whose STORY now makes the greatest FEAR least (the first); that by asked()." */
    private static void tellerFirst() {
        for (int many = 1; many <= 5; many++) {
            LampCave alike = Check.in("wr09" + " p3009".repeat(many));
            Check.due("teller() of " + many + " alike", alike.teller(), 0);
            Check.due("teller() of " + many + " alike, asked()", alike.asked(), 4);
        }
        LampCave singer = Check.in("wr09 p3009 p3009 p3009 p3009 s3009");
        Check.due("teller(): a SINGER's FEAR stays", singer.teller(), 4);
        Check.due("teller(): a SINGER, asked()", singer.asked(), 3);
        LampCave last = Check.in("wr09 p1009 p1009 p1009 p9009 g1009");
        Check.due("teller(): of 2 and 4, who sit BESIDE 3", last.teller(), 2);
        Check.due("teller(): 2, asked()", last.asked(), 7);
        LampCave nought = Check.in("wr09 s0009 p0009");
        Check.due("teller() of nought", nought.teller(), 0);
        Check.due("teller() of nought, asked()", nought.asked(), 0);
        LampCave most = Check.in("wr09 p0009");
        most.fear(0, 44);
        Check.due("teller() up to a SCREAM", most.teller(), 0);
        Check.due("teller() up to a SCREAM, asked()", most.asked(), 45);
        Check.due("teller() aside", most.over(), 0);
    }

    /** "STATE: no PEOPLE, or it is OVER." */
    private static void tellerRefused() {
        Bounds.refused("teller() without PEOPLE", Bounds::empty, LampCave::teller, Check.STATE);
        Bounds.refused("teller() at first", LampCave::new, LampCave::teller, Check.STATE);
        Bounds.refused("teller() when OVER", Bounds::livedOver, LampCave::teller, Check.STATE);
    }
}

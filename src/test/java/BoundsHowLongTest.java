/** Boundary cases of promises 27 to 31: holds, best, rest, worst, often. */
public final class BoundsHowLongTest {
    public static void main(String[] args) {
        holdsUpTo100();
        holdsTellsWho();
        holdsAside();
        holdsRefused();
        bestFirst();
        bestOfAll();
        bestRefused();
        restTwoAtLeast();
        restUpTo100();
        restWithoutEnd();
        restOverSooner();
        restAside();
        worstBounds();
        worstRefused();
        oftenBounds();
        oftenRefused();
        Check.end();
    }

    /** In LIGHT FEAR stays 0; in the dark it is 45 behind 5 MINUTES more. */
    private static LampCave burning(int oil) {
        LampCave x = Check.in("wr09 p0909");
        x.oil(oil);
        return x;
    }

    /** "Behind how many MINUTES more by a LAW it is OVER (0: it is), 100 at most. NONE: not in these." */
    private static void holdsUpTo100() {
        for (int law = 0; law <= 3; law++) {
            Check.due("holds(" + law + ") for 5", burning(0).holds(law), 5);
            Check.due("holds(" + law + ") for 99", burning(94).holds(law), 99);
            Check.due("holds(" + law + ") for 100", burning(95).holds(law), 100);
            Check.due("holds(" + law + ") for 101", burning(96).holds(law), Check.NONE);
            LampCave x = Check.in("wr00 p0109");
            x.fear(0, 44);
            Check.due("holds(" + law + ") for 1", x.holds(law), 1);
            x.fear(0, 45);
            Check.due("holds(" + law + ") for 0", x.holds(law), 0);
            Check.due("holds(" + law + ") for 0, asked()", x.asked(), 1);
            x.fear(0, 99);
            Check.due("holds(" + law + ") for 0, at 99", x.holds(law), 0);
            Check.due("holds(" + law + ") for ever", Check.in("wr00 p0009").holds(law), Check.NONE);
        }
    }

    /** "Who SCREAMS then (bits) by asked()": then, not now nor later. NONE tells nothing. */
    private static void holdsTellsWho() {
        LampCave x = Check.in("wr00 p0109 p0109 p0109 p0109 p0109");
        for (int bits = 1; bits < 32; bits++) {
            for (int who = 0; who < 5; who++) {
                x.fear(who, (bits >> who & 1) == 1 ? 43 : 42);
            }
            Check.due("holds(1) of " + bits, x.holds(1), 2);
            Check.due("holds(1) of " + bits + ", asked()", x.asked(), bits);
        }
        LampCave none = burning(96);
        none.person(0, 4);
        Check.due("holds(0) NONE", none.holds(0), Check.NONE);
        Check.due("holds(0) NONE, asked() stays", none.asked(), 45);
        Bounds.leavesAll("holds(0) NONE", () -> burning(96), y -> y.holds(0), Check.NONE);
    }

    /** "Aside, from as it is": THE LAW, MINUTES, FEARS and OIL stay; at MINUTE 120 it goes on aside, too. */
    private static void holdsAside() {
        for (int law = 0; law <= 3; law++) {
            LampCave x = Bounds.livedFull();
            x.oil(0);
            x.fear(0, 40);
            long was = x.digest();
            Check.that("holds(" + law + ") at 120", x.holds(law) > 0);
            Check.due("holds(" + law + ") aside", x.digest(), was);
        }
        // From as it is: who had the lamp and the MINUTE's number count.
        LampCave turns = Check.in("wr19 p0919 p0009 p0009 p0001");
        turns.hand(3);
        Check.due("by turns from 3 on", turns.tell(1, 1, 0), 1);
        Check.rowIs("by turns from 3 on", turns, 0, 0);
    }

    /** "BAD; STATE: no PEOPLE." */
    private static void holdsRefused() {
        for (int law : Bounds.outside(0, 3)) {
            Bounds.refused("holds(" + law + ")", Bounds::lived, x -> x.holds(law), Check.BAD);
            Bounds.refused("holds(" + law + ") without PEOPLE: BAD first", Bounds::empty, x -> x.holds(law), Check.BAD);
        }
        Bounds.refused("holds(0) without PEOPLE", Bounds::empty, x -> x.holds(0), Check.STATE);
        Bounds.refused("holds(3) at first", LampCave::new, x -> x.holds(3), Check.STATE);
    }

    /** "The LAW that holds longest so (the first ..); how long by asked()". */
    private static void bestFirst() {
        int[] oil = {0, 94, 95, 96};
        int[] due = {5, 99, 100, Check.NONE};
        for (int k = 0; k < oil.length; k++) {
            LampCave x = burning(oil[k]);
            Check.due("best() of alike ones", x.best(), 0);
            Check.due("best() of alike ones, asked()", x.asked(), due[k]);
        }
        LampCave over = Bounds.livedOver();
        Check.due("best() when OVER", over.best(), 0);
        Check.due("best() when OVER, asked()", over.asked(), 0);
    }

    /** "The first; NONE of holds() longest of all": each LAW is best for once, next to 99, 100 and NONE of others. */
    private static void bestOfAll() {
        String[] caves = {"wr04 p0139 g0118 k8308 p6006 s0115", "wr08 s2338 c1318 c2236", "wr09 c4316 l4117 s3026 g7115",
            "wo09 s8225 l1118 c0307 l5006", "wr09 k7037 p4129 s3208 s2325", "wr08 l3105 g9009 s8339 p9139 k3129",
            "wr09 g8216 p8205 c1029", "wo09 k2327 k6119 p6228 g4039 l5208"};
        int none = Check.NONE;
        int[][] holds = {{51, 49, 16, 52}, {99, 100, 28, 98}, {99, 23, 99, 100}, {99, 45, 100, 100},
            {none, 100, 20, none}, {100, none, 19, 97}, {100, 66, none, 100}, {100, 39, 34, none}};
        int[] best = {3, 1, 3, 2, 0, 1, 2, 3};
        for (int k = 0; k < caves.length; k++) {
            LampCave x = Check.in(caves[k]);
            for (int law = 0; law <= 3; law++) {
                Check.due("holds(" + law + ") of '" + caves[k] + "'", x.holds(law), holds[k][law]);
            }
            Check.due("best() of '" + caves[k] + "'", x.best(), best[k]);
            Check.due("best() of '" + caves[k] + "', asked()", x.asked(), holds[k][best[k]]);
        }
    }

    private static void bestRefused() {
        Bounds.refused("best() without PEOPLE", Bounds::empty, LampCave::best, Check.STATE);
        Bounds.refused("best() at first", LampCave::new, LampCave::best, Check.STATE);
    }

    /** "(2 at least)": as 2 MINUTES ahead; nobody had it ahead of the first MINUTE, which is unlike anybody's having it. */
    private static void restTwoAtLeast() {
        for (int law = 0; law <= 3; law++) {
            LampCave x = Check.in("wr" + law + "0 p0009");
            Check.due("rest() at MINUTE 0, LAW " + law, x.rest(), 3);
            x.minutes(1);
            Check.due("rest() at MINUTE 1, LAW " + law, x.rest(), 2);
            x.undo(0);
            Check.due("rest() undone, LAW " + law, x.rest(), 3);
        }
        LampCave two = Check.in("wr10 p0009 p0009");
        two.hand(1);
        Check.due("rest() of two by turns", two.rest(), 2);
        LampCave three = Check.in("wr10 p0009 p0009 p0009");
        three.hand(1);
        Check.due("three by turns: who has it is never as 2 ahead", three.rest(), Check.NONE);
        // FEARS must be as they were, too: 1 falls to 0 in the first MINUTE, 2 in the first two.
        LampCave falls = Check.in("wr00 p0019");
        falls.hand(0);
        for (int fear = 0; fear <= 3; fear++) {
            falls.fear(0, fear);
            Check.due("rest() of FEAR " + fear, falls.rest(), fear + 2);
        }
    }

    /** "100 at most. NONE: not till then": one's FEAR falls by 1 in each MINUTE that one has the lamp. */
    private static void restUpTo100() {
        LampCave x = Check.in("wo00 p0919 p0919 p0919");
        x.fear(0, 37);
        x.fear(1, 40);
        int[] third = {19, 20, 21};
        int[] due = {99, 100, Check.NONE};
        for (int k = 0; k < third.length; k++) {
            x.fear(2, third[k]);
            Check.due("rest() with " + (77 + third[k]) + " to fall", x.rest(), due[k]);
        }
    }

    /** "With OIL without end". */
    private static void restWithoutEnd() {
        for (int oil : new int[] {0, 1, 6, 7, 99}) {
            LampCave x = Check.in("wr09 p5919");
            x.oil(oil);
            Check.due("rest() with OIL " + oil, x.rest(), 7);
            Check.due("rest() with OIL " + oil + ", OIL then", x.count(2), oil);
        }
        LampCave dark = Check.in("wr00 p5919");
        dark.rest();
        Check.due("rest(), then hand(0): OIL has an end again", dark.hand(0), 14);
    }

    /** "Or it is OVER sooner". */
    private static void restOverSooner() {
        LampCave now = Check.in("wr00 p0001");
        now.hand(0);
        now.fear(0, 4);
        Check.due("rest() just not OVER", now.rest(), 2);
        now.fear(0, 5);
        Check.due("rest() when OVER", now.rest(), Check.NONE);
        // 2 is not BESIDE 0, who keeps the lamp: OVER behind 1 MINUTE, or never.
        LampCave far = Check.in("wr00 p9009 p0009 p4102");
        far.hand(0);
        far.fear(2, 8);
        Check.due("2 at 9 of 10 behind 1, at 10 behind 2", far.rest(), Check.NONE);
        LampCave still = Check.in("wr00 p9009 p0009 p4002");
        still.hand(0);
        Check.due("2 as it is", still.rest(), 2);
    }

    private static void restAside() {
        LampCave x = Bounds.lived();
        int rest = x.rest();
        Bounds.leavesAll("rest()", Bounds::lived, LampCave::rest, rest);
        Bounds.leavesAll("rest() when OVER", Bounds::livedOver, LampCave::rest, Check.NONE);
        Bounds.refused("rest() without PEOPLE", Bounds::empty, LampCave::rest, Check.STATE);
        Bounds.refused("rest() at first", LampCave::new, LampCave::rest, Check.STATE);
    }

    /** "The greatest FEAR of all behind n (0 .. 60) MINUTES by THE LAW (or till it is OVER); whose (the first)". */
    private static void worstBounds() {
        LampCave x = Check.in("wr10 p0109 p0009");
        int[] n = {0, 1, 44, 45, 46, 60};
        int[] due = {0, 1, 44, 45, 45, 45};
        for (int k = 0; k < n.length; k++) {
            Check.due("worst(" + n[k] + ")", x.worst(n[k]), due[k]);
            Check.due("worst(" + n[k] + "), whose", x.asked(), 0);
        }
        LampCave far = Check.in("wr10 p0009 p0009 p0009 p0009 p0009");
        Check.due("worst(60) of nought", far.worst(60), 0);
        Check.due("worst(60) of nought, whose", far.asked(), 0);
        for (int who = 4; who >= 0; who--) {
            far.fear(who, 44);
            Check.due("worst(60) from " + who + " on", far.worst(60), 44);
            Check.due("worst(60) from " + who + " on, whose", far.asked(), who);
        }
        far.fear(3, 99);
        Check.due("worst(60) when OVER", far.worst(60), 99);
        Check.due("worst(60) when OVER, whose", far.asked(), 3);
        LampCave sixty = Check.in("wr19 p0009 p0009 p0109");
        // By turns 2's FEAR is 1 more in the first of three MINUTES, as it is in the two others.
        Check.due("worst(58)", sixty.worst(58), 20);
        Check.due("worst(60)", sixty.worst(60), 20);
        Check.due("worst(57)", sixty.worst(57), 19);
        LampCave full = Bounds.livedFull();
        Check.that("worst(60) at MINUTE 120", full.worst(60) >= 0);
    }

    /** "BAD; STATE: no PEOPLE." */
    private static void worstRefused() {
        for (int n : Bounds.outside(0, 60)) {
            Bounds.refused("worst(" + n + ")", Bounds::lived, x -> x.worst(n), Check.BAD);
            Bounds.refused("worst(" + n + ") without PEOPLE: BAD first", Bounds::empty, x -> x.worst(n), Check.BAD);
        }
        Bounds.refused("worst(0) without PEOPLE", Bounds::empty, x -> x.worst(0), Check.STATE);
        Bounds.refused("worst(60) without PEOPLE", Bounds::empty, x -> x.worst(60), Check.STATE);
    }

    /** "How often one has the lamp in n (0 .. 60) MINUTES by THE LAW (or till it is OVER)." */
    private static void oftenBounds() {
        LampCave x = Check.in("wr10 p0009 p0009 p0009 p0009 p0009");
        int[] n = {0, 1, 4, 5, 59, 60};
        int[] first = {0, 1, 1, 1, 12, 12};
        int[] last = {0, 0, 0, 1, 11, 12};
        for (int k = 0; k < n.length; k++) {
            Check.due("often(0, " + n[k] + ")", x.often(0, n[k]), first[k]);
            Check.due("often(4, " + n[k] + ")", x.often(4, n[k]), last[k]);
        }
        LampCave over = Check.in("wr10 p0109 p0009");
        int[] asked = {44, 45, 46, 60};
        int[] due = {22, 23, 23, 23};
        for (int k = 0; k < asked.length; k++) {
            Check.due("often(0, " + asked[k] + ") till OVER", over.often(0, asked[k]), due[k]);
        }
        Bounds.leavesAll("often(0, 60) when OVER", Bounds::livedOver, y -> y.often(0, 60), 0);
        Bounds.leavesAll("often(0, 0)", Bounds::lived, y -> y.often(0, 0), 0);
        LampCave one = Check.in("wr00 p0009");
        Check.due("often(0, 60) alone", one.often(0, 60), 60);
        one.minutes(60);
        one.minutes(60);
        Check.due("often(0, 60) at MINUTE 120", one.often(0, 60), 60);
    }

    /** "BAD." */
    private static void oftenRefused() {
        for (int n : Bounds.outside(0, 60)) {
            Bounds.refused("often(0, " + n + ")", Bounds::lived, x -> x.often(0, n), Check.BAD);
        }
        for (int who : Bounds.outside(0, 4)) {
            Bounds.refused("often(" + who + ", 1)", Bounds::lived, x -> x.often(who, 1), Check.BAD);
        }
        Bounds.refused("often(0, 0) without PEOPLE", Bounds::empty, x -> x.often(0, 0), Check.BAD);
    }
}

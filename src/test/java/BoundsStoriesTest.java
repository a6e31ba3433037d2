/** Boundary cases of STORIES, SONGS and kept CAVES, promises 23 to 26. */
public final class BoundsStoriesTest {
    public static void main(String[] args) {
        storyTwoLess();
        storyOneMore();
        storyBeside();
        storyRefused();
        songBelow();
        songLess();
        songRefused();
        keepPlaces();
        keepAgain();
        keepRefused();
        onAsKept();
        onRefused();
        Check.end();
    }

    /** "FEAR of all BESIDE is 2 less (0 at least)". */
    private static void storyTwoLess() {
        int[] fears = {0, 1, 2, 3, 44};
        int[] then = {0, 0, 0, 1, 42};
        for (int k = 0; k < fears.length; k++) {
            LampCave x = Check.in("wr09 p0009 p5009 p0009");
            x.fear(0, fears[k]);
            x.fear(2, fears[k]);
            Check.due("story(1) BESIDE " + fears[k], x.story(1), 6 + 2 * then[k]);
            Check.fearsAre("story(1) BESIDE " + fears[k], x, then[k], 6, then[k]);
            Check.due("no MINUTE goes by", x.count(1), 0);
            Check.due("no OIL is burnt", x.count(2), 90);
        }
    }

    /** "Of the one 1 more (a SINGER 0 more)": up to a SCREAM. */
    private static void storyOneMore() {
        for (char kind : "pcklsg".toCharArray()) {
            int more = kind == 's' ? 0 : 1;
            for (int fear : new int[] {0, 43, 44}) {
                LampCave x = Check.in("wr09 " + kind + "0009");
                x.fear(0, fear);
                Check.due("a STORY by " + kind + " with " + fear, x.story(0), fear + more);
                Check.due("a STORY by " + kind + " with " + fear + ", over()", x.over(), fear + more == 45 ? 1 : 0);
            }
        }
        LampCave scream = Check.in("wr09 p4001 p9009");
        Check.due("a STORY with a SCREAM", scream.story(0), 12);
        Check.due("no other STORY then", scream.story(1), Check.STATE);
        Check.fearsAre("no other STORY then", scream, 5, 7);
    }

    /** "All BESIDE": none, one, two; the last and the first in a ring of more than two. */
    private static void storyBeside() {
        LampCave row = Check.in("wr09 p9009 p9009 p9009 p9009 p9009");
        Check.due("at the end of a row", row.story(0), 44);
        Check.fearsAre("at the end of a row", row, 10, 7, 9, 9, 9);
        Check.due("at the other end of a row", row.story(4), 43);
        Check.fearsAre("at the other end of a row", row, 10, 7, 9, 7, 10);
        LampCave ring = Check.in("wo09 p9009 p9009 p9009 p9009 p9009");
        Check.due("in a ring", ring.story(4), 42);
        Check.fearsAre("in a ring", ring, 7, 9, 9, 7, 10);
        LampCave three = Check.in("wo09 p9009 p9009 p9009");
        three.story(0);
        Check.fearsAre("in a ring of three", three, 10, 7, 7);
        LampCave two = Check.in("wo09 p9009 p9009");
        two.story(0);
        Check.fearsAre("in a ring of two, once", two, 10, 7);
        LampCave one = Check.in("wo09 p9009");
        Check.due("alone", one.story(0), 10);
    }

    /** "BAD; STATE: it is OVER." */
    private static void storyRefused() {
        for (int who : Bounds.outside(0, 4)) {
            Bounds.refused("story(" + who + ")", Bounds::lived, x -> x.story(who), Check.BAD);
            Bounds.refused("story(" + who + ") when OVER: BAD first", Bounds::livedOver, x -> x.story(who), Check.BAD);
        }
        Bounds.refused("story(0) without PEOPLE", Bounds::empty, x -> x.story(0), Check.BAD);
        Bounds.refused("story(0) when OVER", Bounds::livedOver, x -> x.story(0), Check.STATE);
        Bounds.refused("story(4) when OVER", Bounds::livedOver, x -> x.story(4), Check.STATE);
        Check.that("story(0) at MINUTE 120", Bounds.livedFull().story(0) >= 0);
    }

    /** "A SONG can be, if FEAR of all is below v"; "v (1 .. 99)". */
    private static void songBelow() {
        for (int v : new int[] {1, 2, 10, 44, 45}) {
            LampCave x = Check.in("wr09 p0009 p0009 p0009");
            for (int who = 0; who < 3; who++) {
                x.fear(who, v - 1);
                Check.due("song(" + v + ") with " + (v - 1) + " of " + who, x.song(v), Math.max(v - 2, 0));
                if (v < 45) {
                    x.fear(who, v);
                    Check.due("song(" + v + ") with " + v + " of " + who, x.song(v), Check.STATE);
                }
                x.fear(who, 0);
            }
        }
        LampCave all = Check.in("wr09 p0009 p0009");
        all.fear(0, 44);
        all.fear(1, 44);
        Check.due("song(99)", all.song(99), 86);
        Check.due("song(98)", all.song(98), 84);
        Check.due("song(1) with FEAR", all.song(1), Check.STATE);
        Check.due("song(1) without", Check.in("wr09 p0009 p0009").song(1), 0);
    }

    /** "Then all are 1 less, and another 1 less for each SINGER (0 at least)": none to five SINGERS. */
    private static void songLess() {
        for (int singers = 0; singers <= 5; singers++) {
            LampCave x = Check.in("wr09" + " s9009".repeat(singers) + " g9009".repeat(5 - singers));
            for (int who = 0; who < 5; who++) {
                x.fear(who, singers + who);
            }
            int[] due = new int[5];
            int sum = 0;
            for (int who = 0; who < 5; who++) {
                due[who] = Math.max(who - 1, 0);
                sum += due[who];
            }
            Check.due("song(99) of " + singers, x.song(99), sum);
            Check.fearsAre("song(99) of " + singers, x, due);
            Check.due("no MINUTE goes by", x.count(1), 0);
            Check.due("no OIL is burnt", x.count(2), 90);
        }
    }

    /** FEAR of all is 20, of one 30. */
    private static LampCave afraid() {
        LampCave x = Bounds.lived();
        for (int who = 0; who < 5; who++) {
            x.fear(who, who == 3 ? 30 : 20);
        }
        return x;
    }

    /** "BAD; STATE: no PEOPLE, it is OVER, or one's FEAR is not below." */
    private static void songRefused() {
        for (int v : Bounds.outside(1, 99)) {
            Bounds.refused("song(" + v + ")", Bounds::lived, x -> x.song(v), Check.BAD);
            Bounds.refused("song(" + v + ") when OVER: BAD first", Bounds::livedOver, x -> x.song(v), Check.BAD);
            Bounds.refused("song(" + v + ") without PEOPLE: BAD first", Bounds::empty, x -> x.song(v), Check.BAD);
        }
        Bounds.refused("song(1) without PEOPLE", Bounds::empty, x -> x.song(1), Check.STATE);
        Bounds.refused("song(99) without PEOPLE", Bounds::empty, x -> x.song(99), Check.STATE);
        Bounds.refused("song(99) when OVER", Bounds::livedOver, x -> x.song(99), Check.STATE);
        Bounds.refused("song(30) with one of 30", BoundsStoriesTest::afraid, x -> x.song(30), Check.STATE);
        Bounds.refused("song(1) with one of 30", BoundsStoriesTest::afraid, x -> x.song(1), Check.STATE);
        Check.due("song(31) with one of 30", afraid().song(31), 100);
    }

    /** "Kept in a place (0 .. 2): its MINUTE": at MINUTE 0 and 120, too, and when it is OVER. */
    private static void keepPlaces() {
        LampCave x = Check.in("wr19 p0009");
        Check.due("keep(0) at MINUTE 0", x.keep(0), 0);
        Check.due("count(5)", x.count(5), 1);
        x.minutes(60);
        Check.due("keep(1) at MINUTE 60", x.keep(1), 60);
        x.minutes(60);
        Check.due("keep(2) at MINUTE 120", x.keep(2), 120);
        Check.due("count(5)", x.count(5), 3);
        Check.due("on(0)", x.on(0), 0);
        Check.found("on(0), had(0)", x, x.had(0), Check.BEYOND);
        Check.due("on(2)", x.on(2), 120);
        Check.due("on(2), had(119)", x.had(119), 0);
        Check.due("on(2), minutes(1)", x.minutes(1), Check.FULL);
        Check.due("on(1)", x.on(1), 60);
        Check.due("on(1), minutes(60)", x.minutes(60), 60);
        Check.due("keep(1) when OVER", Bounds.livedOver().keep(1), 7);
    }

    /** A place that is kept in is kept in again; the others stay. */
    private static void keepAgain() {
        LampCave x = Bounds.lived();
        long digest = x.digest();
        Check.due("keep(0) again", x.keep(0), 7);
        Check.due("count(5)", x.count(5), 2);
        Check.due("on(2), as kept ahead", x.on(2), 4);
        Check.due("on(0), as kept last", x.on(0), 7);
        x.undo(4);
        Check.due("on(0) once more", x.on(0), 7);
        x.keep(2);
        x.undo(1);
        x.keep(0);
        x.on(2);
        Check.that("the digest tells of kept CAVES", x.digest() != digest);
        x.undo(0);
        x.hand(2);
        x.fear(0, 9);
        x.law(0);
        x.oil(3);
        Check.due("what goes on does not change what is kept", x.on(2), 7);
        Check.due("nor THE LAW kept", x.law(2), 2);
    }

    /** keep(): "BAD; STATE: no PEOPLE." */
    private static void keepRefused() {
        for (int k : Bounds.outside(0, 2)) {
            Bounds.refused("keep(" + k + ")", Bounds::lived, x -> x.keep(k), Check.BAD);
            Bounds.refused("keep(" + k + ") without PEOPLE: BAD first", Bounds::empty, x -> x.keep(k), Check.BAD);
        }
        Bounds.refused("keep(0) without PEOPLE", Bounds::empty, x -> x.keep(0), Check.STATE);
        Bounds.refused("keep(2) at first", LampCave::new, x -> x.keep(2), Check.STATE);
    }

    /** "The CAVE is as it was kept": FEARS, OIL, THE LAW, MINUTES and what can be undone of them; it stays kept. */
    private static void onAsKept() {
        for (int times = 1; times <= 2; times++) {
            LampCave x = Bounds.lived();
            LampCave y = Bounds.lived();
            x.keep(1);
            y.keep(1);
            // Other MINUTES with other FEARS and OIL come in place of those that are kept.
            x.undo(0);
            x.law(0);
            x.oil(50);
            x.fear(4, 40);
            for (int minute = 0; minute < 9; minute++) {
                x.hand((minute + 3) % 5);
            }
            x.fear(4, 45);
            for (int k = 0; k < times; k++) {
                Check.due("on(1)", x.on(1), 7);
            }
            Check.due("on(1), digest()", x.digest(), y.digest());
            for (int n = 6; n >= 0; n--) {
                x.undo(n);
                y.undo(n);
                Check.due("on(1), undo(" + n + "), digest()", x.digest(), y.digest());
            }
        }
        // All 120 of them.
        LampCave full = Bounds.livedFull();
        LampCave same = Bounds.livedFull();
        full.keep(0);
        same.keep(0);
        full.undo(0);
        full.law(1);
        full.oil(60);
        full.fear(1, 1);
        full.minutes(60);
        full.minutes(60);
        Check.due("on(0) at MINUTE 120", full.on(0), 120);
        for (int n = 120; n >= 0; n -= 5) {
            full.undo(n);
            same.undo(n);
            Check.due("on(0), undo(" + n + "), digest()", full.digest(), same.digest());
        }
        LampCave over = Bounds.lived();
        over.keep(1);
        over.fear(0, 99);
        over.on(1);
        Check.due("OVER no more", over.over(), 0);
    }

    /** on(): "BAD; NOTHING." */
    private static void onRefused() {
        for (int k : Bounds.outside(0, 2)) {
            Bounds.refused("on(" + k + ")", Bounds::lived, x -> x.on(k), Check.BAD);
            Bounds.refused("on(" + k + ") without PEOPLE", Bounds::empty, x -> x.on(k), Check.BAD);
        }
        Bounds.finds("on(1)", Bounds::lived, x -> x.on(1), Check.NOTHING);
        Bounds.finds("on(0) without PEOPLE", Bounds::empty, x -> x.on(0), Check.NOTHING);
        Bounds.finds("on(2) at first", LampCave::new, x -> x.on(2), Check.NOTHING);
    }
}

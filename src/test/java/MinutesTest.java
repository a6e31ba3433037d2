/** Promises 17 to 26: MINUTES, THE LAW, undo, over, STORIES, SONGS, kept CAVES. */
public final class MinutesTest {
    public static void main(String[] args) {
        inLight();
        inTheDark();
        clamps();
        laws();
        minutesRefused();
        handing();
        undoing();
        over();
        stories();
        songs();
        keeping();
        keepingAll();
        Check.end();
    }

    private static void inLight() {
        LampCave x = Check.in("wr01 p5235 k3146 c2219");
        Check.due("minutes(1)", x.minutes(1), 1);
        Check.fearsAre("first minute", x, 2, 2, 4);
        Check.due("oil burnt", x.count(2), 9);
        Check.due("minutes(2)", x.minutes(2), 2);
        Check.fearsAre("third minute", x, 1, 0, 5);
        Check.due("had(0)", x.had(0), 0);
        Check.due("had(1)", x.had(1), 2);
        Check.due("had(2)", x.had(2), 0);
        Check.found("had(3)", x, x.had(3), Check.BEYOND);
        Check.due("had(-1)", x.had(-1), Check.BAD);
        // In a ring of three all others sit BESIDE: nobody's FEAR grows.
        LampCave ring = Check.in("wo01 p5235 k3146 c2219");
        ring.minutes(1);
        Check.fearsAre("ring", ring, 1, 2, 2);
    }

    private static void inTheDark() {
        LampCave x = Check.in("wr00 p5235 k3146 c2219");
        Check.due("minutes(1)", x.minutes(1), 1);
        Check.fearsAre("dark", x, 7, 4, 4);
        Check.due("no oil to burn", x.count(2), 0);
        Check.due("had(0)", x.had(0), 0);
        LampCave last = Check.in("wr00 p5235");
        last.oil(1);
        last.minutes(2);
        Check.fearsAre("the last oil", last, 4);
        // Two who are more afraid BESIDE a child in the dark, by FEARS as they were.
        LampCave child = Check.in("wr00 p3909 k2009 p3909");
        child.minutes(1);
        Check.fearsAre("child", child, 12, 4, 12);
        child.fear(1, 12);
        child.minutes(1);
        Check.fearsAre("as afraid is not more", child, 21, 12, 21);
        // A child BESIDE who has the lamp in LIGHT is as it is, and less by the calm one.
        LampCave lit = Check.in("wr09 g0009 k2009 p3909");
        lit.hand(2);
        Check.fearsAre("child in light", lit, 0, 1, 3);
        // Each of SINGER, GUIDE and CALM makes it 1 less.
        LampCave calm = Check.in("wr00 s9009 p9009 g9009 p9009 c9009");
        calm.minutes(1);
        Check.fearsAre("calm ones", calm, 9, 7, 9, 7, 9);
    }

    private static void clamps() {
        LampCave x = Check.in("wr09 c1009 p2999 s0009");
        x.hand(1);
        Check.fearsAre("0 at least", x, 1, 0, 0);
        // 99 at most: without that 1's FEAR would be 107, and the lamp would go there.
        LampCave y = Check.in("wr00 p0001 p0901");
        y.fear(0, 99);
        y.fear(1, 98);
        Check.layRow(y, 0, 0, 0);
        Check.due("99 at most", y.judge(0), 2);
    }

    private static void laws() {
        LampCave shows = Check.in("wr09 g9009 p5009 l1009 p9009");
        Check.due("law 0: a liar's 10 is most", shows.next(), 2);
        shows.fear(2, 0);
        Check.due("law 0: the first of alike ones", shows.next(), 2);
        shows.fear(3, 10);
        Check.due("law 0: 10 is more than 9", shows.next(), 3);
        Check.due("law 0: all GUIDES", Check.in("wr09 g9009 g9009").next(), 0);

        LampCave turns = Check.in("wr19 p0009 p9009 p5009");
        turns.minutes(4);
        for (int m = 0; m < 4; m++) {
            Check.due("law 1: had(" + m + ")", turns.had(m), m % 3);
        }
        turns.hand(2);
        Check.due("law 1: behind the last", turns.next(), 0);

        LampCave near = Check.in("wr29 p0009 p1009 p9009 p0009");
        Check.due("law 2: nobody had it", near.next(), 0);
        near.hand(0);
        Check.due("law 2: not as far as 2", near.next(), 1);
        near.hand(1);
        Check.due("law 2: 2 now", near.next(), 2);
        LampCave round = Check.in("wo29 p0009 p1009 p0009 p1009");
        round.hand(0);
        Check.due("law 2: in a ring, the first by numbers", round.next(), 1);
        LampCave stays = Check.in("wr29 p1009 p1009 g9009");
        stays.hand(1);
        Check.due("law 2: 0 is as afraid, and first", stays.next(), 0);
        LampCave guides = Check.in("wr29 g1009 g1009 g9009");
        guides.hand(2);
        Check.due("law 2: GUIDES alone", guides.next(), 1);

        LampCave held = Check.in("wr39 p0009 p9099 p5019");
        Check.due("law 3: nobody had it", held.next(), 0);
        held.hand(2);
        Check.due("law 3: odd", held.next(), 2);
        held.hand(2);
        Check.due("law 3: even", held.next(), 1);
        held.law(0);
        held.hand(0);
        held.law(3);
        Check.due("law 3: odd, who had it", held.next(), 0);
        LampCave odd = Check.in("wr09 p0009 p9009");
        odd.minutes(3);
        odd.hand(0);
        odd.law(3);
        Check.due("law 3: even, as by 0", odd.next(), 1);
    }

    private static void minutesRefused() {
        LampCave x = Check.in("wr19 p0009");
        Check.due("minutes(61)", x.minutes(61), Check.BAD);
        Check.due("minutes(-1)", x.minutes(-1), Check.BAD);
        Check.due("minutes(0)", x.minutes(0), 0);
        Check.due("minutes(60)", x.minutes(60), 60);
        Check.due("minutes(59)", x.minutes(59), 59);
        Check.due("minutes(2)", x.minutes(2), Check.FULL);
        Check.due("count(1)", x.count(1), 119);
        Check.due("minutes(1)", x.minutes(1), 1);
        Check.due("minutes(1) beyond", x.minutes(1), Check.FULL);
        Check.due("minutes(0) at 120", x.minutes(0), 0);
        Check.due("hand(0) at 120", x.hand(0), Check.FULL);
        Check.due("hand(1): BAD ahead of FULL", x.hand(1), Check.BAD);
        Check.due("next() at 120", x.next(), 0);
        Check.due("had(119)", x.had(119), 0);
        LampCave turns = Check.in("wr19 p0009 p0009");
        turns.minutes(60);
        turns.minutes(59);
        turns.hand(0);
        Check.due("next() by turns at 120", turns.next(), 1);
        Check.due("tell(1, 2, 0) at 120", turns.tell(1, 2, 0), 2);
        Check.rowIs("tell(1, 2, 0) at 120", turns, 0, 1, 0);
        Check.due("holds(0) at 120 goes on aside", x.holds(0), Check.NONE);
        x.fear(0, 45);
        Check.due("minutes(1): FULL also if OVER", x.minutes(1), Check.FULL);
        Check.due("hand(0): STATE ahead of FULL", x.hand(0), Check.STATE);
        Check.due("undo(60)", x.undo(60), 60);
        Check.due("count(1) then", x.count(1), 60);
        Check.fearsAre("undone", x, 0);
    }

    private static void handing() {
        LampCave x = Check.in("wr01 p5235 k3146 c2219");
        Check.due("hand(3)", x.hand(3), Check.BAD);
        Check.due("hand(-1)", x.hand(-1), Check.BAD);
        Check.due("hand(2)", x.hand(2), 1);
        Check.fearsAre("hand(2)", x, 7, 2, 1);
        Check.due("had(0)", x.had(0), 2);
        x.fear(0, 25);
        Check.due("hand(0) when OVER", x.hand(0), Check.STATE);
        Check.due("next() when OVER", x.next(), Check.STATE);
        Check.due("minutes(5) when OVER", x.minutes(5), 0);
        LampCave till = Check.in("wr00 p0901");
        Check.due("minutes(9) till OVER", till.minutes(9), 1);
        LampCave first = Check.in("wr00 p5001");
        Check.due("OVER at first, too", first.minutes(9), 0);
    }

    private static void undoing() {
        LampCave x = Check.in("wr01 p5235 k3146 c2219");
        x.story(0);
        Check.fearsAre("story ahead of minute 0", x, 6, 1, 2);
        x.minutes(1);
        x.song(99);
        x.oil(50);
        x.minutes(1);
        x.story(1);
        x.law(2);
        long now = x.digest();
        Check.due("undo(2)", x.undo(2), 0);
        Check.due("undo(2): all stays", x.digest(), now);
        Check.due("undo(3)", x.undo(3), Check.BAD);
        Check.due("undo(-1)", x.undo(-1), Check.BAD);
        Check.due("undo(0)", x.undo(0), 2);
        Check.fearsAre("as ahead of minute 0, with its story", x, 6, 1, 2);
        Check.due("OIL as it was", x.count(2), 10);
        Check.due("THE LAW stays", x.law(0), 2);
        Check.due("count(1)", x.count(1), 0);
        Check.found("had(0)", x, x.had(0), Check.BEYOND);
        x.law(1);
        Check.due("nobody had it", x.next(), 0);
        LampCave over = Check.in("wr00 p0901 p0001");
        over.minutes(1);
        Check.due("over()", over.over(), 1);
        Check.due("undo(0) of the scream", over.undo(0), 1);
        Check.due("over() no more", over.over(), 0);
    }

    private static void over() {
        LampCave x = Check.in("wr09 p4001 p4002 p5001 p9001");
        Check.due("over()", x.over(), 1);
        Check.due("asked()", x.asked(), 12);
        Check.due("count(4)", x.count(4), 2);
        x.fear(2, 4);
        x.fear(3, 4);
        Check.due("over() none", x.over(), 0);
        Check.due("asked() none", x.asked(), 0);
        x.fear(0, 99);
        Check.due("over() one", x.over(), 1);
        Check.due("asked() one", x.asked(), 1);
    }

    private static void stories() {
        LampCave x = Check.in("wr09 p4009 s4009 p1009 p9009");
        Check.due("story(4)", x.story(4), Check.BAD);
        Check.due("story(-1)", x.story(-1), Check.BAD);
        Check.due("story(0)", x.story(0), 17);
        Check.fearsAre("story(0)", x, 5, 2, 1, 9);
        Check.due("story(1) by a SINGER", x.story(1), 14);
        Check.fearsAre("story(1)", x, 3, 2, 0, 9);
        Check.due("no MINUTE", x.count(1), 0);
        Check.due("no OIL", x.count(2), 90);
        LampCave ring = Check.in("wo09 p4009 p4009 p4009 p4009");
        ring.story(0);
        Check.fearsAre("story in a ring", ring, 5, 2, 4, 2);
        LampCave scream = Check.in("wr09 p4001 p4009");
        Check.due("a story may make one scream", scream.story(0), 7);
        Check.due("over()", scream.over(), 1);
        Check.due("story(1) when OVER", scream.story(1), Check.STATE);
    }

    private static void songs() {
        LampCave x = Check.in("wr09 p4009 s5009 p1009 s9009");
        Check.due("song(0)", x.song(0), Check.BAD);
        Check.due("song(100)", x.song(100), Check.BAD);
        Check.due("song(9): 9 is not below", x.song(9), Check.STATE);
        Check.due("song(10)", x.song(10), 9);
        Check.fearsAre("song(10)", x, 1, 2, 0, 6);
        Check.due("song(99)", x.song(99), 3);
        Check.due("song(1): 0 is not yet FEAR of all", x.song(1), Check.STATE);
        Check.due("song(1): FEAR of all is 0", Check.in("wr09 p0009 s0009").song(1), 0);
        LampCave plain = Check.in("wr09 p4009 c1009 g0009");
        Check.due("song(99) without SINGERS", plain.song(99), 3);
        Check.fearsAre("song(99)", plain, 3, 0, 0);
        plain.fear(0, 45);
        Check.due("song(99) when OVER", plain.song(99), Check.STATE);
        Check.due("no MINUTE", plain.count(1), 0);
    }

    private static void keeping() {
        LampCave x = Check.in("wr01 p5235 k3146 c2219");
        Check.due("keep(-1)", x.keep(-1), Check.BAD);
        Check.due("keep(3)", x.keep(3), Check.BAD);
        Check.due("on(-1)", x.on(-1), Check.BAD);
        Check.due("on(3)", x.on(3), Check.BAD);
        Check.found("on(2)", x, x.on(2), Check.NOTHING);
        x.minutes(2);
        Check.due("keep(2)", x.keep(2), 2);
        Check.due("count(5)", x.count(5), 1);
        Check.due("keep(2) again", x.keep(2), 2);
        Check.due("count(5) again", x.count(5), 1);
        long was = x.digest();
        x.minutes(3);
        x.law(3);
        x.oil(77);
        x.fear(1, 9);
        Check.due("keep(0)", x.keep(0), 5);
        long later = x.digest();
        Check.due("on(2)", x.on(2), 2);
        Check.due("kept stay", x.count(5), 2);
        Check.due("undo(1) goes on from what was kept", x.undo(1), 1);
        Check.fearsAre("undo(1)", x, 2, 2, 4);
        Check.due("on(0)", x.on(0), 5);
        Check.due("as it was later", x.digest(), later);
        x.undo(3);
        Check.due("on(0) again", x.on(0), 5);
        Check.due("as it was later, again", x.digest(), later);
        Check.due("undo(0) of it", x.undo(0), 5);
        Check.fearsAre("undo(0)", x, 5, 3, 2);
        Check.that("digests differ", was != later);
    }

    private static void keepingAll() {
        LampCave x = Check.in("wr01 p5235 k3146 c2219");
        Check.layRow(x, 0, 1, 2);
        x.at(0, 1);
        x.keep(1);
        x.lay(0, 1, 9);
        x.text(3, 5);
        x.mean(5);
        Check.due("on(1)", x.on(1), 0);
        Check.due("asked() stays", x.asked(), 2);
        Check.due("finding() stays", x.finding(), Check.NOTHING);
        Check.due("TEXTS stay", x.count(7), 2);
        Check.told("ROWS stay", x, x.at(0, 1), 9);
    }
}

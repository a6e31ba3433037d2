/** Promises 27 to 37: how long, the best handing, the best order. */
public final class HowLongTest {
    public static void main(String[] args) {
        holding();
        resting();
        worstAndOften();
        longest();
        calmest();
        orders();
        swaps();
        sparing();
        tellers();
        Check.end();
    }

    private static void holding() {
        // Who has the lamp keeps it by LAW 3 in odd MINUTES; in the dark nothing matters but GROWS.
        LampCave dark = Check.in("wr00 p1106 p0105");
        Check.due("holds(4)", dark.holds(4), Check.BAD);
        Check.due("holds(-1)", dark.holds(-1), Check.BAD);
        Check.due("holds(0)", dark.holds(0), 25);
        Check.due("who screams", dark.asked(), 2);
        Check.due("best()", dark.best(), 0);
        Check.due("best(): how long", dark.asked(), 25);
        dark.fear(0, 5);
        Check.due("both scream", dark.holds(1), 25);
        Check.due("both by asked()", dark.asked(), 3);
        long before = dark.digest();
        dark.holds(2);
        Check.due("aside: nothing changes", dark.digest(), before);
        LampCave still = Check.in("wr00 p1006 p0005");
        still.at(0, 0);
        still.person(0, 4);
        Check.due("holds(0) for ever", still.holds(0), Check.NONE);
        Check.due("asked() stays with NONE", still.asked(), 30);
        Check.due("best() for ever", still.best(), 0);
        Check.due("best(): NONE", still.asked(), Check.NONE);
        still.fear(1, 25);
        Check.due("holds(1) when OVER", still.holds(1), 0);
        Check.due("holds(1) who", still.asked(), 2);
        Check.due("best() when OVER", still.best(), 0);
        Check.due("best() when OVER, how long", still.asked(), 0);
        // 60 minutes and more go by aside: 44 in the light of 99 OIL.
        LampCave last = Check.in("wr09 p0029");
        last.oil(99);
        Check.due("holds(0) 100 at most", last.holds(0), Check.NONE);
        LampCave hundred = Check.in("wr09 p0909");
        hundred.oil(95);
        Check.due("holds(0) at 100", hundred.holds(0), 100);
        hundred.oil(96);
        Check.due("holds(0) past 100", hundred.holds(0), Check.NONE);
        // By LAW 0 a GUIDE never has the lamp; by turns that one's FEAR is 3 more, as it is, 1 less.
        LampCave turns = Check.in("wr09 p1009 p0009 g0319");
        Check.due("holds(0) with a guide", turns.holds(0), 15);
        Check.due("holds(1) with a guide", turns.holds(1), 64);
        Check.due("a best law that is not the first", turns.best(), 1);
        Check.due("how long", turns.asked(), 64);
    }

    private static void resting() {
        LampCave x = Check.in("wr00 p0009");
        Check.due("rest(): nobody had it at first", x.rest(), 3);
        x.hand(0);
        Check.due("rest() at once", x.rest(), 2);
        LampCave scream = Check.in("wr00 p5001");
        Check.due("rest() when OVER", scream.rest(), Check.NONE);
        // With OIL without end 40 fall by 1 a MINUTE: at 0 behind 40, and as 2 ahead behind 42.
        LampCave falls = Check.in("wr00 p0919");
        falls.fear(0, 40);
        Check.due("rest() with OIL without end", falls.rest(), 42);
        Check.due("OIL is as it was", falls.count(2), 0);
        Check.due("OVER sooner", Check.in("wr00 p1009 p0009 p0901").rest(), Check.NONE);
        // A GUIDE never has the lamp by LAW 0: FEAR grows by 1 until that one screams.
        LampCave far = Check.in("wr00 p1009 p0009 g0109");
        Check.due("OVER much later", far.rest(), Check.NONE);
        // The lamp stays with the liar's 18 till 19 is shown behind 19 MINUTES; from 20 on 2 has it.
        Check.due("who has the lamp counts, too", Check.in("wr00 l9009 p0009 p0109").rest(), 22);
        // In a ring of three the most afraid one's FEAR falls by 1 each MINUTE till all are 0, the last one's last;
        // 3 MINUTES later 0 had the lamp three times.
        LampCave ring = Check.in("wo00 p0919 p0919 p0919");
        ring.fear(0, 37);
        ring.fear(1, 40);
        ring.fear(2, 20);
        Check.due("rest() behind 100", ring.rest(), 100);
        ring.fear(2, 21);
        Check.due("rest() behind 101 is none", ring.rest(), Check.NONE);
        // Two at the ends, by turns of LAW 0: 2 MINUTES ahead it was the same.
        LampCave ends = Check.in("wr09 p1119 p0009 p0119");
        Check.due("rest() of two at the ends", ends.rest(), 3);
        Check.due("its first MINUTE", ends.next(), 0);
    }

    private static void worstAndOften() {
        LampCave x = Check.in("wr01 p5235 k3146 c2219");
        Check.due("worst(61)", x.worst(61), Check.BAD);
        Check.due("worst(-1)", x.worst(-1), Check.BAD);
        Check.due("worst(0)", x.worst(0), 5);
        Check.due("whose", x.asked(), 0);
        Check.due("worst(1)", x.worst(1), 4);
        Check.due("whose behind 1", x.asked(), 2);
        Check.due("worst(2)", x.worst(2), 4);
        Check.due("whose behind 2", x.asked(), 0);
        Check.due("often(0, 3)", x.often(0, 3), 2);
        Check.due("often(1, 3)", x.often(1, 3), 0);
        Check.due("often(2, 3)", x.often(2, 3), 1);
        Check.due("often(0, 0)", x.often(0, 0), 0);
        Check.due("often(3, 1)", x.often(3, 1), Check.BAD);
        Check.due("often(0, 61)", x.often(0, 61), Check.BAD);
        Check.due("often(0, -1)", x.often(0, -1), Check.BAD);
        Check.due("aside", x.count(1), 0);
        LampCave dark = Check.in("wr00 p0901 p0901");
        Check.due("worst(9) till OVER", dark.worst(9), 9);
        Check.due("whose, the first", dark.asked(), 0);
        Check.due("often(0, 9) till OVER", dark.often(0, 9), 1);
        dark.fear(1, 50);
        Check.due("worst(9) when OVER", dark.worst(9), 50);
        Check.due("whose when OVER", dark.asked(), 1);
        Check.due("often(1, 9) when OVER", dark.often(1, 9), 0);
    }

    private static void longest() {
        LampCave x = Check.in("wr09 p0009");
        Check.due("longest(6)", x.longest(6), Check.BAD);
        Check.due("longest(-1)", x.longest(-1), Check.BAD);
        Check.due("longest(0)", x.longest(0), 6);
        Check.rowIs("longest(0)", x, 0, 0, 0, 0, 0, 0, 0);
        // Four in a row: 3 screams unless 2 or 3 has the lamp, and so 0 screams behind the third MINUTE.
        LampCave four = Check.in("wr09 p0201 p0009 p0009 p4901");
        Check.due("longest(1)", four.longest(1), 2);
        Check.rowIs("longest(1)", four, 1, 2, 2);
        LampCave none = Check.in("wr00 p4901 p0009");
        Check.due("longest of none", none.longest(2), 0);
        Check.rowIs("longest of none", none, 2);
        none.fear(0, 5);
        Check.layRow(none, 2, 8, 8);
        Check.due("longest when OVER", none.longest(2), 0);
        Check.rowIs("longest when OVER", none, 2);
        Check.due("aside", none.count(1), 0);
    }

    private static void calmest() {
        LampCave x = Check.in("wr09 p5019 p3009 p7019");
        Check.due("calmest(7, 0)", x.calmest(7, 0), Check.BAD);
        Check.due("calmest(-1, 0)", x.calmest(-1, 0), Check.BAD);
        Check.due("calmest(1, 6)", x.calmest(1, 6), Check.BAD);
        Check.due("calmest(0, 0)", x.calmest(0, 0), 7);
        Check.rowIs("calmest(0, 0)", x, 0);
        Check.due("calmest(1, 0)", x.calmest(1, 0), 6);
        Check.rowIs("calmest(1, 0)", x, 0, 2);
        Check.due("calmest(3, 0)", x.calmest(3, 0), 5);
        Check.rowIs("calmest(3, 0)", x, 0, 0, 2, 2);
        Check.due("calmest(6, 0)", x.calmest(6, 0), 3);
        Check.rowIs("calmest(6, 0)", x, 0, 0, 0, 2, 2, 2, 2);
        LampCave none = Check.in("wr00 p4901 p0009");
        Check.layRow(none, 2, 8, 8);
        Check.due("calmest of none", none.calmest(1, 2), Check.NONE);
        Check.rowIs("a ROW stays with NONE", none, 2, 8, 8);
        none.fear(0, 5);
        Check.due("calmest(0, 2) when OVER", none.calmest(0, 2), Check.NONE);
    }

    private static void orders() {
        LampCave x = Check.in("wr10 p0109 p0109 c0009");
        Check.due("order(6)", x.order(6), Check.BAD);
        Check.due("order(-1)", x.order(-1), Check.BAD);
        Check.due("order(0): the calm one between", x.order(0), Check.NONE);
        Check.rowIs("order(0)", x, 0, 0, 2, 1);
        Check.due("PEOPLE sit as they sat", x.mark(2, 1), 1);
        LampCave alike = Check.in("wr10 p0109 p0109 p0109");
        Check.due("order(1)", alike.order(1), 45);
        Check.rowIs("order(1): the first", alike, 1, 0, 1, 2);
        alike.fear(1, 45);
        Check.due("order(1) when OVER", alike.order(1), 0);
        Check.rowIs("order(1) when OVER", alike, 1, 0, 1, 2);
        LampCave one = Check.in("wo10 p0109");
        Check.due("order(2) of one", one.order(2), 45);
        Check.rowIs("order(2) of one", one, 2, 0);
    }

    private static void swaps() {
        LampCave x = Check.in("wr10 p0109 p0109 c0009");
        Check.due("swap()", x.swap(), 12);
        Check.due("swap(): for ever", x.asked(), Check.NONE);
        LampCave zero = Check.in("wr10 c0009 p0109 p0109");
        Check.due("swap() of 0 and 1", zero.swap(), 1);
        x.person(0, 4);
        LampCave already = Check.in("wr10 p0109 c0009 p0109");
        already.person(0, 4);
        Check.due("no change makes it longer", already.swap(), Check.NONE);
        Check.due("asked() stays", already.asked(), 45);
        LampCave one = Check.in("wr10 p0109");
        Check.due("fewer than two", one.swap(), Check.NONE);
        LampCave alike = Check.in("wr10 p0109 p0109");
        Check.due("alike", alike.swap(), Check.NONE);
    }

    private static void sparing() {
        LampCave x = Check.in("wr00 p0901");
        Check.due("spare(61)", x.spare(61), Check.BAD);
        Check.due("spare(-1)", x.spare(-1), Check.BAD);
        Check.due("spare(0)", x.spare(0), 0);
        Check.due("spare(1)", x.spare(1), 1);
        Check.due("spare(60)", x.spare(60), 60);
        Check.due("OIL as it was", x.count(2), 0);
        Check.due("spare(60) with much to spare", Check.in("wr09 p0109").spare(60), 16);
        LampCave never = Check.in("wr09 p0001 p0009 p0901");
        never.law(1);
        Check.due("spare(1): 2 screams in light, too", never.spare(1), Check.NONE);
        x.fear(0, 5);
        Check.due("spare(0) when OVER", x.spare(0), Check.NONE);
    }

    private static void tellers() {
        LampCave x = Check.in("wr09 p6009 p7009 s5009 p1009");
        Check.due("teller()", x.teller(), 2);
        Check.due("teller(): the greatest then", x.asked(), 6);
        Check.fearsAre("aside", x, 6, 7, 5, 1);
        LampCave alike = Check.in("wr09 p3009 p3009 p3009");
        Check.due("teller(): the first", alike.teller(), 0);
        Check.due("teller(): 4", alike.asked(), 4);
        alike.fear(0, 45);
        Check.due("teller() when OVER", alike.teller(), Check.STATE);
    }
}

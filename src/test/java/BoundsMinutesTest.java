/** Boundary cases of THE LAW, a MINUTE, OVER, and of promises 17 to 22: minutes, hand, next, had, undo, over. */
public final class BoundsMinutesTest {
    private static final String FIVE = " p0009 p0009 p0009 p0009 p0009";

    public static void main(String[] args) {
        nobodyHadIt();
        mostShown();
        byTurns();
        toANeighbour();
        heldForAWhile();
        oilBurnt();
        fearFalls();
        besideInLight();
        fearGrows();
        childrenAtOnce();
        calmOnes();
        atLeastNought();
        atMost99();
        overAtScreams();
        minutesBounds();
        minutesTillOver();
        minutesFull();
        minutesRefused();
        handBounds();
        handRefused();
        nextRefused();
        hadBounds();
        undoBounds();
        undoRefused();
        undoBringsBack();
        overTells();
        Check.end();
    }

    private static LampCave by(int law, String form, String people) {
        return Check.in("w" + form + law + "9" + people);
    }

    /** "One 0 by LAWS 1 to 3, as long as nobody had it." */
    private static void nobodyHadIt() {
        for (int law = 0; law <= 3; law++) {
            LampCave x = by(law, "r", " p0009 p9009 g9009");
            Check.due("nobody had it, LAW " + law, x.next(), law == 0 ? 1 : 0);
            x.hand(1);
            int[] due = {1, 2, 1, 1};
            Check.due("1 had it, LAW " + law, x.next(), due[law]);
            x.undo(0);
            Check.due("nobody had it again, LAW " + law, x.next(), law == 0 ? 1 : 0);
        }
    }

    /** LAW "0 the one who SHOWS most (the first)". */
    private static void mostShown() {
        for (int most = 0; most < 5; most++) {
            LampCave x = by(0, "r", FIVE);
            x.fear(most, 1);
            Check.due("most is " + most, x.next(), most);
            if (most > 0) {
                x.fear(0, 1);
                Check.due("0 as much as " + most, x.next(), 0);
                x.fear(0, 0);
            }
            if (most < 4) {
                x.fear(4, 1);
                Check.due("4 as much as " + most, x.next(), most);
            }
        }
        Check.due("all alike", by(0, "r", FIVE).next(), 0);
    }

    /** LAW "1 by turns, by numbers, 0 behind the last". */
    private static void byTurns() {
        for (int many = 1; many <= 5; many++) {
            LampCave x = by(1, "r", FIVE.substring(0, 6 * many));
            for (int who = 0; who < many; who++) {
                x.hand(who);
                Check.due("behind " + who + " of " + many, x.next(), who == many - 1 ? 0 : who + 1);
            }
        }
    }

    /** LAW "2 of who had it and those BESIDE that one the one who SHOWS most (the first by numbers)". */
    private static void toANeighbour() {
        for (String form : new String[] {"r", "o"}) {
            boolean ring = form.equals("o");
            for (int had = 0; had < 5; had++) {
                LampCave alike = by(2, form, FIVE);
                alike.hand(had);
                int first = had == 0 || ring && had == 4 ? 0 : had - 1;
                Check.due("alike, " + had + " had it, " + form, alike.next(), first);
                for (int most = 0; most < 5; most++) {
                    LampCave x = by(2, form, FIVE);
                    x.hand(had);
                    x.fear(most, 1);
                    int apart = Math.abs(had - most);
                    boolean near = apart <= 1 || ring && apart == 4;
                    Check.due(had + " had it, " + most + " shows most, " + form, x.next(), near ? most : first);
                }
            }
        }
        LampCave two = by(2, "o", " p0009 p1009");
        two.hand(0);
        Check.due("in a ring of two", two.next(), 1);
        LampCave one = by(2, "o", " p0009");
        one.hand(0);
        Check.due("alone", one.next(), 0);
        LampCave guide = by(2, "r", " p9009 p9009 g9009 p0009 p9009");
        guide.hand(3);
        Check.due("not to a GUIDE, the first of the others", guide.next(), 4);
        guide.fear(4, 0);
        Check.due("who had it, as much as who sits BESIDE: the first", guide.next(), 3);
    }

    /** LAW "3 as by 0, but in every MINUTE with an odd number who had it". */
    private static void heldForAWhile() {
        LampCave x = by(3, "r", FIVE);
        x.fear(3, 1);
        for (int number = 0; number < 120; number++) {
            int had = number == 0 ? 0 : x.had(number - 1);
            Check.due("LAW 3 in MINUTE " + number, x.next(), number == 0 ? 0 : number % 2 == 1 ? had : 3);
            x.hand((number * 2 + 1) % 5);
        }
        Check.due("LAW 3 in MINUTE 120", x.next(), 3);
    }

    /** "If there is OIL, 1 of it is burnt, and there is LIGHT: else none." */
    private static void oilBurnt() {
        LampCave x = Check.in("wr00 p9349");
        int[] oil = {0, 1, 2, 99};
        int[] then = {0, 0, 1, 98};
        int[] fear = {12, 5, 5, 5};
        for (int k = 0; k < oil.length; k++) {
            x.oil(oil[k]);
            x.fear(0, 9);
            Check.due("with OIL " + oil[k] + ", FEAR then", x.hand(0), fear[k]);
            Check.due("with OIL " + oil[k] + ", OIL then", x.count(2), then[k]);
        }
        x.oil(2);
        x.fear(0, 9);
        Check.due("minutes(4) with OIL 2", x.minutes(4), 4);
        Check.fearsAre("two of them in LIGHT", x, 7);
    }

    /** "Who has it in LIGHT: FEAR less FALLS", "0 at least". */
    private static void fearFalls() {
        for (int falls = 0; falls <= 9; falls++) {
            LampCave x = Check.in("wr09 p59" + falls + "9 p0009");
            Check.due("FEAR 5 less " + falls, x.hand(0), Math.max(5 - falls, 0));
        }
    }

    /** "Who sits BESIDE that one in LIGHT: as it is; others (without LIGHT all): FEAR and GROWS". */
    private static void besideInLight() {
        String people = " p1219 p1219 p1219 p1219 p1219";
        for (int has = 0; has < 5; has++) {
            LampCave row = by(0, "r", people);
            LampCave ring = by(0, "o", people);
            LampCave dark = Check.in("wr00" + people);
            row.hand(has);
            ring.hand(has);
            dark.hand(has);
            for (int who = 0; who < 5; who++) {
                int apart = Math.abs(who - has);
                int inRow = apart == 0 ? 0 : apart == 1 ? 1 : 3;
                int inRing = apart == 4 ? 1 : inRow;
                Check.told(has + " has it in a row: " + who, row, row.person(who, 1), inRow);
                Check.told(has + " has it in a ring: " + who, ring, ring.person(who, 1), inRing);
                Check.told(has + " has it in the dark: " + who, dark, dark.person(who, 1), 3);
            }
        }
        LampCave two = by(0, "o", " p1219 p1219");
        two.hand(1);
        Check.fearsAre("a ring of two", two, 1, 0);
        LampCave three = by(0, "o", " p1219 p1219 p1219");
        three.hand(1);
        Check.fearsAre("a ring of three", three, 1, 0, 1);
        LampCave inRow = by(0, "r", " p1219 p1219 p1219");
        inRow.hand(0);
        Check.fearsAre("a row of three", inRow, 0, 1, 3);
    }

    /** GROWS 0 .. 9 in the dark. */
    private static void fearGrows() {
        for (int grows = 0; grows <= 9; grows++) {
            LampCave x = Check.in("wr00 p0" + grows + "99");
            Check.due("GROWS " + grows, x.hand(0), grows);
        }
    }

    /** "All at once, by FEARS as they were"; "for a CHILD 1 more for each BESIDE it whose FEAR is greater". */
    private static void childrenAtOnce() {
        int[][] fears = {{4, 5, 4}, {5, 5, 5}, {6, 5, 5}, {5, 5, 6}, {6, 5, 6}};
        int[] more = {0, 0, 1, 1, 2};
        for (int k = 0; k < fears.length; k++) {
            LampCave x = Check.in("wr00 p0009 k0109 p0009");
            for (int who = 0; who < 3; who++) {
                x.fear(who, fears[k][who]);
            }
            x.hand(0);
            Check.fearsAre("a CHILD in the dark", x, fears[k][0], 6 + more[k], fears[k][2]);
        }
        // By FEARS as they were: 0 goes up to 9 and 2 down to 0 in the same MINUTE.
        LampCave up = Check.in("wr00 p0909 k5009 p0009");
        up.hand(0);
        Check.fearsAre("who was less afraid", up, 9, 5, 0);
        LampCave children = Check.in("wr00 k3009 k2009 k1009 k0009");
        children.hand(3);
        Check.fearsAre("CHILDREN in a row", children, 3, 3, 2, 1);
        LampCave ring = Check.in("wo00 k3009 k2009 k1009 k0009");
        ring.hand(3);
        Check.fearsAre("CHILDREN in a ring", ring, 3, 3, 2, 2);
        // In LIGHT not for who has it, nor for who sits BESIDE that one; for others it is.
        LampCave lit = Check.in("wr09 k1019 k2009 k1009 p9009");
        lit.hand(0);
        Check.fearsAre("CHILDREN in LIGHT", lit, 0, 2, 3, 9);
        // A ONE's FEAR has nothing to do with those BESIDE.
        LampCave one = Check.in("wr00 p9009 p1009 l9009");
        one.hand(0);
        Check.fearsAre("no CHILD", one, 9, 1, 9);
    }

    /** "Of each 1 less for each CALM one (SINGER, GUIDE, too) BESIDE": none, one, two; in LIGHT and without it. */
    private static void calmOnes() {
        for (char kind : "csg".toCharArray()) {
            String one = " " + kind + "9009";
            LampCave dark = Check.in("wr00" + one + " p9009" + one + " p9009 p9009");
            dark.hand(4);
            Check.fearsAre("in the dark by " + kind, dark, 9, 7, 9, 8, 9);
            LampCave lit = Check.in("wr09" + one + " p9009" + one + " p9009 p9009");
            lit.hand(1);
            Check.fearsAre("in LIGHT by " + kind, lit, 9, 7, 9, 8, 9);
            LampCave each = Check.in("wo00" + one + one + one);
            each.hand(0);
            Check.fearsAre("one another in a ring by " + kind, each, 7, 7, 7);
        }
        for (char kind : "pkl".toCharArray()) {
            String one = " " + kind + "9009";
            LampCave x = Check.in("wr00" + one + " p9009" + one);
            x.hand(0);
            Check.fearsAre("no CALM one: " + kind, x, 9, 9, 9);
        }
    }

    /** "0 at least", behind all that is more and less. */
    private static void atLeastNought() {
        for (int grows = 0; grows <= 4; grows++) {
            LampCave dark = Check.in("wr00 c0009 p0" + grows + "09 c0009");
            dark.hand(1);
            Check.fearsAre("GROWS " + grows + " between two CALM ones", dark, 0, Math.max(grows - 2, 0), 0);
        }
        for (int fear = 0; fear <= 3; fear++) {
            LampCave beside = Check.in("wr09 c0009 p" + fear + "909 c0009");
            beside.hand(0);
            Check.fearsAre("FEAR " + fear + " as it is, between two CALM ones", beside, 0, Math.max(fear - 2, 0), 0);
            LampCave has = Check.in("wr09 c0009 p" + fear + "919");
            has.hand(1);
            Check.fearsAre("FEAR " + fear + " less 1, BESIDE a CALM one", has, 0, Math.max(fear - 2, 0));
        }
    }

    /** "99 at most", behind all that is more and less: seen by who SHOWS most, when handings go on though it is OVER. */
    private static void atMost99() {
        // 1's FEAR is 9 more in the dark, 0's is as it was; the first of alike ones has it.
        int[] before = {88, 89, 90, 91, 98};
        int[] beside98 = {0, 0, 1, 1, 1};
        for (int k = 0; k < before.length; k++) {
            LampCave x = Check.in("wr00 p0009 p0909");
            x.fear(1, before[k]);
            x.fear(0, 98);
            Check.layRow(x, 0, 0, beside98[k]);
            Check.due("99 is reached from " + before[k], x.judge(0), 2);
            x.fear(0, 99);
            Check.layRow(x, 0, 0, 0);
            Check.due("99 is not passed from " + before[k], x.judge(0), 2);
        }
        LampCave first = Check.in("wr00 p0009 p0909");
        first.fear(0, 99);
        first.fear(1, 99);
        Check.layRow(first, 0, 0, 0, 0);
        Check.due("99 is as much as 99: the first", first.judge(0), 3);
        // 98 and 9, less 1 by the CALM one, is 99 still, and 1 comes ahead of 3.
        LampCave calm = Check.in("wr00 c0009 p0909 p0009 p0009");
        calm.fear(1, 98);
        calm.fear(3, 99);
        Check.layRow(calm, 0, 3, 1);
        Check.due("at most 99 behind what is less", calm.judge(0), 2);
    }

    /** "OVER, when somebody's FEAR is as much as that at which that one SCREAMS, or more (at first, too)." */
    private static void overAtScreams() {
        for (int figure = 1; figure <= 9; figure++) {
            LampCave x = Check.in("wr09 p000" + figure);
            int[] fears = {0, 5 * figure - 1, 5 * figure, 5 * figure + 1, 99};
            for (int k = 0; k < fears.length; k++) {
                x.fear(0, fears[k]);
                Check.due("over() with " + fears[k] + " of " + 5 * figure, x.over(), k >= 2 ? 1 : 0);
                Check.due("asked()", x.asked(), k >= 2 ? 1 : 0);
                Check.due("next()", x.next(), k >= 2 ? Check.STATE : 0);
            }
        }
        Check.due("at first, FEAR 4 of 5", Check.in("wr09 p4001").over(), 0);
        Check.due("at first, FEAR 5 of 5", Check.in("wr09 p5001").over(), 1);
        Check.due("at first, FEAR 6 of 5", Check.in("wr09 p6001").over(), 1);
        // What a LIAR SHOWS is no FEAR.
        Check.due("a LIAR with FEAR 4 of 5", Check.in("wr09 l4001").over(), 0);
        Check.due("a GUIDE with FEAR 5 of 5", Check.in("wr09 g5001").over(), 1);
        Check.due("without PEOPLE", Bounds.empty().over(), 0);
    }

    /** "n (0 .. 60) MINUTES by THE LAW": how many went. */
    private static void minutesBounds() {
        LampCave x = Check.in("wr19 p0009 p0009");
        for (int n : new int[] {0, 1, 59, 60}) {
            int was = x.count(1);
            Check.due("minutes(" + n + ")", x.minutes(n), n);
            Check.due("minutes(" + n + "), count(1)", x.count(1), was + n);
        }
        Check.due("at 120 by turns", x.had(119), 1);
        Bounds.leavesAll("minutes(0)", Bounds::lived, y -> y.minutes(0), 0);
    }

    /** "Until it is OVER": 45 at the 45th MINUTE in the dark. */
    private static void minutesTillOver() {
        int[] asked = {43, 44, 45, 46, 60};
        int[] went = {43, 44, 45, 45, 45};
        for (int k = 0; k < asked.length; k++) {
            LampCave x = Check.in("wr00 p0109");
            Check.due("minutes(" + asked[k] + ")", x.minutes(asked[k]), went[k]);
            Check.due("minutes(" + asked[k] + "), count(1)", x.count(1), went[k]);
            Check.due("minutes(" + asked[k] + "), over()", x.over(), k >= 2 ? 1 : 0);
            Check.fearsAre("minutes(" + asked[k] + ")", x, went[k]);
        }
        for (int n : new int[] {0, 1, 60}) {
            Bounds.leavesAll("minutes(" + n + ") when OVER", Bounds::livedOver, x -> x.minutes(n), 0);
        }
    }

    /** At MINUTE 61, FEAR 44 of 45. */
    private static LampCave nearlyOver() {
        LampCave x = Check.in("wr19 p0109");
        x.minutes(60);
        x.minutes(1);
        x.oil(0);
        x.fear(0, 44);
        return x;
    }

    /** "FULL: with n more MINUTE 120 would be passed (also, if it is OVER sooner)." */
    private static void minutesFull() {
        LampCave x = Check.in("wr19 p0009");
        x.minutes(60);
        Check.due("60 behind 60", x.minutes(60), 60);
        Bounds.leavesAll("none behind 120", Bounds::livedFull, y -> y.minutes(0), 0);
        Bounds.refused("1 behind 120", Bounds::livedFull, y -> y.minutes(1), Check.FULL);
        Bounds.refused("60 behind 120", Bounds::livedFull, y -> y.minutes(60), Check.FULL);
        Bounds.refused("1 behind 120, OVER", Bounds::livedFullOver, y -> y.minutes(1), Check.FULL);
        Bounds.leavesAll("none behind 120, OVER", Bounds::livedFullOver, y -> y.minutes(0), 0);
        Bounds.refused("60 behind 61, OVER sooner", BoundsMinutesTest::nearlyOver, y -> y.minutes(60), Check.FULL);
        Check.due("59 behind 61, OVER sooner", nearlyOver().minutes(59), 1);
        LampCave last = Check.in("wr19 p0009");
        last.minutes(59);
        last.minutes(60);
        Check.due("2 behind 119", last.minutes(2), Check.FULL);
        Check.due("1 behind 119", last.minutes(1), 1);
    }

    /** "BAD; STATE: no PEOPLE; FULL. (FULL last.)" */
    private static void minutesRefused() {
        for (int n : Bounds.outside(0, 60)) {
            Bounds.refused("minutes(" + n + ")", Bounds::lived, x -> x.minutes(n), Check.BAD);
            Bounds.refused("minutes(" + n + ") without PEOPLE: BAD first", Bounds::empty, x -> x.minutes(n), Check.BAD);
            Bounds.refused("minutes(" + n + ") at 120: BAD first", Bounds::livedFull, x -> x.minutes(n), Check.BAD);
            Bounds.refused("minutes(" + n + ") when OVER", Bounds::livedOver, x -> x.minutes(n), Check.BAD);
        }
        Bounds.refused("minutes(0) without PEOPLE", Bounds::empty, x -> x.minutes(0), Check.STATE);
        Bounds.refused("minutes(60) without PEOPLE", Bounds::empty, x -> x.minutes(60), Check.STATE);
        Bounds.refused("minutes(1) at first", LampCave::new, x -> x.minutes(1), Check.STATE);
    }

    /** "A MINUTE with the lamp given to one: FEAR of that one then." */
    private static void handBounds() {
        LampCave x = Check.in("wr09 p5129 p5139 p5149 p5159 p5199");
        Check.due("hand(0)", x.hand(0), 3);
        Check.due("hand(4)", x.hand(4), 0);
        Check.fearsAre("hand(0), hand(4)", x, 4, 6, 7, 6, 0);
        Check.due("had(0)", x.had(0), 0);
        Check.due("had(1)", x.had(1), 4);
        LampCave dark = Check.in("wr00 p0109");
        for (int fear = 1; fear <= 45; fear++) {
            Check.due("hand(0) in the dark", dark.hand(0), fear);
        }
        Check.due("hand(0) when OVER", dark.hand(0), Check.STATE);
        LampCave last = Check.in("wr19 p3009");
        last.minutes(60);
        last.minutes(59);
        Check.due("hand(0) in MINUTE 119", last.hand(0), 3);
        Check.due("hand(0), count(1)", last.count(1), 120);
        Check.due("hand(0) at 120", last.hand(0), Check.FULL);
    }

    /** "BAD; STATE: it is OVER; FULL: MINUTE 120. (FULL last.)" */
    private static void handRefused() {
        for (int who : Bounds.outside(0, 4)) {
            Bounds.refused("hand(" + who + ")", Bounds::lived, x -> x.hand(who), Check.BAD);
            Bounds.refused("hand(" + who + ") when OVER: BAD first", Bounds::livedOver, x -> x.hand(who), Check.BAD);
            Bounds.refused("hand(" + who + ") at 120: BAD first", Bounds::livedFull, x -> x.hand(who), Check.BAD);
        }
        Bounds.refused("hand(0) without PEOPLE", Bounds::empty, x -> x.hand(0), Check.BAD);
        for (int who : new int[] {0, 4}) {
            Bounds.refused("hand(" + who + ") when OVER", Bounds::livedOver, x -> x.hand(who), Check.STATE);
            Bounds.refused("hand(" + who + ") at 120", Bounds::livedFull, x -> x.hand(who), Check.FULL);
            String both = "hand(" + who + ") at 120 and OVER: STATE first";
            Bounds.refused(both, Bounds::livedFullOver, x -> x.hand(who), Check.STATE);
        }
    }

    /** next(): "STATE: no PEOPLE, or it is OVER." */
    private static void nextRefused() {
        Bounds.refused("next() at first", LampCave::new, LampCave::next, Check.STATE);
        Bounds.refused("next() without PEOPLE", Bounds::empty, LampCave::next, Check.STATE);
        Bounds.refused("next() when OVER", Bounds::livedOver, LampCave::next, Check.STATE);
        Bounds.refused("next() when OVER at 120", Bounds::livedFullOver, LampCave::next, Check.STATE);
        Bounds.leavesAll("next() at 120", () -> Check.in("wr19 p0009"), LampCave::next, 0);
        LampCave x = Bounds.livedFull();
        Check.that("next() at 120 is one of PEOPLE", x.next() >= 0 && x.next() < 5);
    }

    /** had(): "BAD: below 0; BEYOND." */
    private static void hadBounds() {
        LampCave x = Check.in("wr19 p0009 p0009 p0009");
        Check.found("had(0) at MINUTE 0", x, x.had(0), Check.BEYOND);
        x.minutes(60);
        x.minutes(60);
        Check.due("had(0)", x.had(0), 0);
        Check.due("had(1)", x.had(1), 1);
        Check.due("had(118)", x.had(118), 1);
        Check.due("had(119)", x.had(119), 2);
        for (int minute : new int[] {7, 8, 119, 120, Bounds.MAX}) {
            Bounds.finds("had(" + minute + ") at MINUTE 7", Bounds::lived, y -> y.had(minute), Check.BEYOND);
        }
        for (int minute : new int[] {-1, Bounds.MIN}) {
            Bounds.refused("had(" + minute + ")", Bounds::lived, y -> y.had(minute), Check.BAD);
            Bounds.refused("had(" + minute + ") at MINUTE 0", LampCave::new, y -> y.had(minute), Check.BAD);
        }
        Bounds.leavesAll("had(6) at MINUTE 7", Bounds::lived, y -> y.had(6), Bounds.lived().had(6));
        Bounds.finds("had(120) at MINUTE 120", Bounds::livedFull, y -> y.had(120), Check.BEYOND);
        Bounds.finds("had(0) without PEOPLE", Bounds::empty, y -> y.had(0), Check.BEYOND);
        LampCave undone = Bounds.lived();
        undone.undo(3);
        Check.found("had(3), undone", undone, undone.had(3), Check.BEYOND);
    }

    /** "MINUTES from number n on are undone (.. n the MINUTE that it is: none, all stays): how many." */
    private static void undoBounds() {
        for (int n = 0; n <= 7; n++) {
            LampCave x = Bounds.lived();
            Check.due("undo(" + n + ") of 7", x.undo(n), 7 - n);
            Check.due("undo(" + n + "), count(1)", x.count(1), n);
            Check.found("undo(" + n + "), had(" + n + ")", x, x.had(n), Check.BEYOND);
        }
        Bounds.leavesAll("undo(7) of 7", Bounds::lived, x -> x.undo(7), 0);
        Bounds.leavesAll("undo(120) of 120", Bounds::livedFull, x -> x.undo(120), 0);
        Bounds.leavesAll("undo(7) of 7 when OVER", Bounds::livedOver, x -> x.undo(7), 0);
        Bounds.leavesAll("undo(0) of none", LampCave::new, x -> x.undo(0), 0);
        Bounds.leavesAll("undo(0) without PEOPLE", Bounds::empty, x -> x.undo(0), 0);
        Check.due("undo(119) of 120", Bounds.livedFull().undo(119), 1);
        Check.due("undo(0) of 120", Bounds.livedFull().undo(0), 120);
    }

    /** "BAD." */
    private static void undoRefused() {
        for (int n : Bounds.outside(0, 7)) {
            Bounds.refused("undo(" + n + ") of 7", Bounds::lived, x -> x.undo(n), Check.BAD);
        }
        for (int n : Bounds.outside(0, 120)) {
            Bounds.refused("undo(" + n + ") of 120", Bounds::livedFull, x -> x.undo(n), Check.BAD);
        }
        for (int n : Bounds.outside(0, 0)) {
            Bounds.refused("undo(" + n + ") without PEOPLE", Bounds::empty, x -> x.undo(n), Check.BAD);
        }
    }

    /** "(FEARS, OIL, who had it, stories and songs since; THE LAW stays ..)": back to each MINUTE, up to 120. */
    private static void undoBringsBack() {
        LampCave x = Check.in("wo19 k5229 c8019 l5029 s7219 g8139");
        long[] ahead = new long[121];
        for (int minute = 0; minute < 120; minute++) {
            if (minute % 9 == 4) {
                x.story(minute % 5);
            }
            ahead[minute] = x.digest();
            x.minutes(1);
            if (minute % 7 == 3) {
                x.song(99);
            }
        }
        ahead[120] = x.digest();
        x.story(2);
        x.oil(99);
        Check.due("a story behind MINUTE 119 stays with undo(120)", x.undo(120), 0);
        Check.due("OIL stays with undo(120)", x.count(2), 99);
        for (int n = 119; n >= 0; n -= n > 100 ? 1 : n > 7 ? 7 : 1) {
            x.undo(n);
            Check.due("undo(" + n + "): as ahead of it", x.digest(), ahead[n]);
        }
        LampCave law = Bounds.lived();
        law.law(3);
        law.undo(0);
        Check.due("THE LAW stays", law.law(0), 3);
        LampCave again = Check.in("wr19 p0109 p0109");
        again.minutes(5);
        again.undo(2);
        again.hand(0);
        Check.due("gone on from there", again.had(2), 0);
        Check.found("no more than that", again, again.had(3), Check.BEYOND);
        again.undo(2);
        Check.due("and undone again", again.next(), 0);
        LampCave scream = Bounds.livedOver();
        scream.undo(6);
        Check.due("OVER no more", scream.over(), 0);
    }

    /** "Whether it is OVER (1, 0); who SCREAMS (bits) by asked()." */
    private static void overTells() {
        LampCave x = Check.in("wr09" + FIVE);
        for (int bits = 0; bits < 32; bits++) {
            for (int who = 0; who < 5; who++) {
                x.fear(who, (bits >> who & 1) == 1 ? 45 : 44);
            }
            Check.due("over() of " + bits, x.over(), bits == 0 ? 0 : 1);
            Check.due("over() of " + bits + ", asked()", x.asked(), bits);
        }
        LampCave none = Bounds.empty();
        Check.due("over() without PEOPLE", none.over(), 0);
        Check.due("over() without PEOPLE, asked()", none.asked(), 0);
    }
}

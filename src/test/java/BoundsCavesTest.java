/** Boundary cases of KINDS, BESIDE, SHOWS and of promises 12 to 16: person, mark, law, oil, fear. */
public final class BoundsCavesTest {
    private static final String LETTERS = "pcklsg";

    public static void main(String[] args) {
        personBounds();
        personRefused();
        shows();
        markWhoIs();
        markCalm();
        markChild();
        markLiar();
        markSinger();
        markGuide();
        markRefused();
        lawBounds();
        oilBounds();
        fearBounds();
        Check.end();
    }

    private static String people(int many, String each) {
        return (" " + each).repeat(many);
    }

    /** person(): one of PEOPLE, what 0 .. 5. */
    private static void personBounds() {
        for (int many = 1; many <= 5; many++) {
            LampCave x = Check.in("wr00" + people(many, "l9876"));
            int[] due = {3, 9, 8, 7, 30, 18};
            for (int what = 0; what <= 5; what++) {
                Check.told("person(0, " + what + ") of " + many, x, x.person(0, what), due[what]);
                Check.told("person(" + (many - 1) + ", " + what + ")", x, x.person(many - 1, what), due[what]);
            }
            Check.due("person(" + many + ", 0) of " + many, x.person(many, 0), Check.BAD);
        }
    }

    /** "BAD." */
    private static void personRefused() {
        for (int who : Bounds.outside(0, 4)) {
            Bounds.refused("person(" + who + ", 0)", Bounds::lived, x -> x.person(who, 0), Check.BAD);
        }
        for (int what : Bounds.outside(0, 5)) {
            Bounds.refused("person(0, " + what + ")", Bounds::lived, x -> x.person(0, what), Check.BAD);
        }
        Bounds.refused("person(0, 0) without PEOPLE", Bounds::empty, x -> x.person(0, 0), Check.BAD);
    }

    /** "What one SHOWS is FEAR; a LIAR 9 more; a GUIDE, whom nobody asks, -1." */
    private static void shows() {
        for (int kind = 0; kind <= 5; kind++) {
            LampCave x = Check.in("wr00 " + LETTERS.charAt(kind) + "0009");
            for (int fear : new int[] {0, 1, 90, 98, 99}) {
                x.fear(0, fear);
                int due = kind == 3 ? fear + 9 : kind == 5 ? -1 : fear;
                Check.told("KIND " + kind + " shows of " + fear, x, x.person(0, 5), due);
            }
        }
        Check.due("0 is more than a GUIDE's -1", Check.in("wr00 g9009 p0009").next(), 1);
        Check.due("GUIDES alone: the first", Check.in("wr00 g0009 g9009").next(), 0);
        Check.due("a LIAR's 9 is as much as 9: the first", Check.in("wr00 p9009 l0009").next(), 0);
        Check.due("a LIAR's 10 is more", Check.in("wr00 p9009 l1009").next(), 1);
    }

    /** "One who IS of a KIND"; "1 CALM (a ONE), 4 SINGER (a CALM), 5 GUIDE (a CALM)"; "BAD: also KIND 0; UNLIKE." */
    private static void markWhoIs() {
        for (int kind = 0; kind <= 5; kind++) {
            String cave = "wr00 " + LETTERS.charAt(kind) + "0009";
            for (int asked = 1; asked <= 5; asked++) {
                int of = asked;
                boolean is = kind == asked || asked == 1 && kind >= 4;
                String call = "mark(0, " + asked + ") of KIND " + kind;
                if (is) {
                    Bounds.leavesAll(call, () -> Check.in(cave), x -> x.mark(0, of), 0);
                } else {
                    Bounds.finds(call, () -> Check.in(cave), x -> x.mark(0, of), Check.UNLIKE);
                }
            }
        }
    }

    /** "A CALM one (SINGER, GUIDE, too) how many sit BESIDE"; "in a ring the last and the first one, too, if more than two". */
    private static void markCalm() {
        for (String form : new String[] {"r", "o"}) {
            for (int many = 1; many <= 5; many++) {
                String each = "csg".charAt(many % 3) + "0009";
                LampCave x = Check.in("w" + form + "00" + people(many, each));
                for (int who = 0; who < many; who++) {
                    int inRow = (who > 0 ? 1 : 0) + (who < many - 1 ? 1 : 0);
                    int due = form.equals("o") && many > 2 ? 2 : inRow;
                    Check.due("BESIDE " + who + " of " + many + " in a " + form, x.mark(who, 1), due);
                }
            }
        }
    }

    /** "A CHILD how many BESIDE are more afraid": none, one, two; who is as afraid is not more. */
    private static void markChild() {
        LampCave x = Check.in("wo00 k5009 p9009 p9009 p9009 p9009");
        int[][] fears = {{4, 4}, {5, 5}, {5, 6}, {6, 5}, {6, 6}};
        int[] due = {0, 0, 1, 1, 2};
        for (int k = 0; k < fears.length; k++) {
            x.fear(1, fears[k][0]);
            x.fear(4, fears[k][1]);
            Check.due("a CHILD of 5 between " + fears[k][0] + " and " + fears[k][1], x.mark(0, 2), due[k]);
        }
        LampCave row = Check.in("wr00 k5009 p5009 p9009 p9009 p9009");
        Check.due("a CHILD at the end of a row", row.mark(0, 2), 0);
        row.fear(1, 6);
        Check.due("a CHILD at the end of a row, one more afraid", row.mark(0, 2), 1);
        Check.due("a CHILD alone", Check.in("wo00 k0009").mark(0, 2), 0);
        // More afraid by FEAR, not by what one SHOWS.
        LampCave liar = Check.in("wr00 k5009 l5009");
        Check.due("a CHILD BESIDE a LIAR", liar.mark(0, 2), 0);
        LampCave guide = Check.in("wr00 k5009 g6009");
        Check.due("a CHILD BESIDE a GUIDE", guide.mark(0, 2), 1);
    }

    /** "A LIAR how many are more afraid": none to four, wherever they sit. */
    private static void markLiar() {
        LampCave x = Check.in("wr00 l5009 p5009 l5009 g5009 k5009");
        for (int more = 0; more <= 4; more++) {
            Check.due("a LIAR with " + more + " more afraid", x.mark(0, 3), more);
            if (more < 4) {
                x.fear(4 - more, 6);
            }
        }
        Check.due("a LIAR alone", Check.in("wo00 l0009").mark(0, 3), 0);
    }

    /** "A SINGER how many other SINGERS there are": none to four. */
    private static void markSinger() {
        for (int many = 1; many <= 5; many++) {
            LampCave x = Check.in("wr00" + people(many, "s0009") + people(5 - many, many % 2 == 0 ? "c0009" : "g0009"));
            Check.due("a SINGER of " + many, x.mark(many - 1, 4), many - 1);
        }
    }

    /** "A GUIDE in how many MINUTES that one had the lamp": none, one, all 120. */
    private static void markGuide() {
        LampCave x = Check.in("wr29 g0009 g0009");
        Check.due("a GUIDE in none", x.mark(0, 5), 0);
        x.hand(0);
        Check.due("a GUIDE in one", x.mark(0, 5), 1);
        Check.due("the other one in none", x.mark(1, 5), 0);
        x.hand(1);
        Check.due("still one", x.mark(0, 5), 1);
        Check.due("the other one in one", x.mark(1, 5), 1);
        x.undo(1);
        Check.due("undone", x.mark(1, 5), 0);
        LampCave all = Check.in("wr29 g0009");
        all.minutes(60);
        all.minutes(60);
        Check.due("a GUIDE in all", all.mark(0, 5), 120);
    }

    /** "BAD: also KIND 0; UNLIKE." */
    private static void markRefused() {
        for (int kind : new int[] {0, -1, 6, Bounds.MIN, Bounds.MAX}) {
            Bounds.refused("mark(0, " + kind + ")", Bounds::lived, x -> x.mark(0, kind), Check.BAD);
        }
        for (int who : Bounds.outside(0, 4)) {
            Bounds.refused("mark(" + who + ", 1)", Bounds::lived, x -> x.mark(who, 1), Check.BAD);
        }
        // One at the bound is of that KIND: 0 a CHILD, 4 a GUIDE.
        Bounds.finds("mark(0, 1) of a CHILD", Bounds::lived, x -> x.mark(0, 1), Check.UNLIKE);
        Bounds.finds("mark(4, 4) of a GUIDE", Bounds::lived, x -> x.mark(4, 4), Check.UNLIKE);
        Bounds.refused("mark(0, 1) without PEOPLE", Bounds::empty, x -> x.mark(0, 1), Check.BAD);
        Bounds.refused("mark(0, 0) of a ONE", () -> Check.in("wr00 p0009"), x -> x.mark(0, 0), Check.BAD);
    }

    /** "THE LAW is v (0 .. 3): what it was. BAD; STATE: no PEOPLE." */
    private static void lawBounds() {
        LampCave x = Check.in("wr29 p0009");
        int was = 2;
        for (int v : new int[] {0, 1, 2, 3, 3, 0}) {
            Check.due("law(" + v + ")", x.law(v), was);
            was = v;
        }
        for (int v : Bounds.outside(0, 3)) {
            Bounds.refused("law(" + v + ")", Bounds::lived, y -> y.law(v), Check.BAD);
            Bounds.refused("law(" + v + ") without PEOPLE: BAD first", Bounds::empty, y -> y.law(v), Check.BAD);
        }
        Bounds.refused("law(0) without PEOPLE", Bounds::empty, y -> y.law(0), Check.STATE);
        Bounds.refused("law(3) without PEOPLE", Bounds::empty, y -> y.law(3), Check.STATE);
        Bounds.refused("law(1) at first", LampCave::new, y -> y.law(1), Check.STATE);
        Check.due("law(0) when it is OVER", Bounds.livedOver().law(0), 2);
    }

    /** "OIL (0 without PEOPLE) is v (0 .. 99): what it was. BAD; STATE: no PEOPLE." */
    private static void oilBounds() {
        LampCave x = Check.in("wr29 p0009");
        int was = 90;
        for (int v : new int[] {0, 1, 98, 99, 0}) {
            Check.due("oil(" + v + ")", x.oil(v), was);
            Check.due("oil(" + v + "), count(2)", x.count(2), v);
            was = v;
        }
        for (int v : Bounds.outside(0, 99)) {
            Bounds.refused("oil(" + v + ")", Bounds::lived, y -> y.oil(v), Check.BAD);
            Bounds.refused("oil(" + v + ") without PEOPLE: BAD first", Bounds::empty, y -> y.oil(v), Check.BAD);
        }
        Bounds.refused("oil(0) without PEOPLE", Bounds::empty, y -> y.oil(0), Check.STATE);
        Bounds.refused("oil(99) without PEOPLE", Bounds::empty, y -> y.oil(99), Check.STATE);
        Check.due("OIL without PEOPLE", Bounds.empty().count(2), 0);
    }

    /** "FEAR of one is v (0 .. 99): what it was. BAD." */
    private static void fearBounds() {
        LampCave x = Check.in("wr29 p3009 p4009 p5009 p6009 p7009");
        int was = 7;
        for (int v : new int[] {0, 1, 98, 99, 0}) {
            Check.due("fear(4, " + v + ")", x.fear(4, v), was);
            Check.told("fear(4, " + v + "), person(4, 1)", x, x.person(4, 1), v);
            was = v;
        }
        Check.due("fear(0, 9)", x.fear(0, 9), 3);
        Check.fearsAre("others stay", x, 9, 4, 5, 6, 0);
        for (int v : Bounds.outside(0, 99)) {
            Bounds.refused("fear(0, " + v + ")", Bounds::lived, y -> y.fear(0, v), Check.BAD);
        }
        for (int who : Bounds.outside(0, 4)) {
            Bounds.refused("fear(" + who + ", 1)", Bounds::lived, y -> y.fear(who, 1), Check.BAD);
        }
        Bounds.refused("fear(0, 0) without PEOPLE", Bounds::empty, y -> y.fear(0, 0), Check.BAD);
        Bounds.refused("fear(1, 0) of one", () -> Check.in("wr00 p0009"), y -> y.fear(1, 0), Check.BAD);
    }
}

import java.util.function.Supplier;

/** Boundary cases of LOTS and of promises 38 to 43: judge, liars, grows, fears, tell, visit. */
public final class BoundsHandingsTest {
    private static final int ALL_FIGURES = 1023;

    public static void main(String[] args) {
        judgeFirstOther();
        judgeOver();
        judgeGoesOn();
        judgeSizes();
        handingsRefusedInOrder();
        handingsOfNone();
        liarsSets();
        liarsLeast();
        growsBits();
        fearsBits();
        learntWhenOver();
        learntChangesNothing();
        tellBounds();
        tellComesToARow();
        tellRefused();
        visitBounds();
        visitLots();
        visitRefused();
        Check.end();
    }

    /** "The first that is not by THE LAW (as many as there are: all are)". */
    private static void judgeFirstOther() {
        for (int other = 0; other <= 5; other++) {
            LampCave x = Check.in("wr19 p0009 p0009 p0009");
            x.row(0, 5);
            for (int k = 0; k < 5; k++) {
                // By turns; once another one, from whom turns go on, and then once more.
                x.lay(0, k, k < other ? k % 3 : (other + 1) % 3);
            }
            Check.due("judge(0), the first other at " + other, x.judge(0), other);
            Check.due("judge(0), not OVER", x.asked(), Check.NONE);
        }
        LampCave none = Check.in("wr19 p0009");
        none.row(0, 0);
        Check.due("judge(0) of none", none.judge(0), 0);
        Check.due("judge(0) of none, asked()", none.asked(), Check.NONE);
    }

    /** "Behind how many of them it is OVER first (0: it is; NONE: not) by asked()". */
    private static void judgeOver() {
        int[] fears = {45, 44, 43, 41, 40, 39};
        int[] due = {0, 1, 2, 4, 5, Check.NONE};
        for (int k = 0; k < fears.length; k++) {
            LampCave x = Check.in("wr00 p0109");
            x.fear(0, fears[k]);
            x.row(0, 5);
            Check.due("judge(0) from " + fears[k], x.judge(0), 5);
            Check.due("judge(0) from " + fears[k] + ", OVER", x.asked(), due[k]);
            x.row(0, 0);
            Check.due("judge(0) of none from " + fears[k], x.judge(0), 0);
            Check.due("judge(0) of none from " + fears[k] + ", OVER", x.asked(), k == 0 ? 0 : Check.NONE);
        }
        // OVER first, though not at the end: in LIGHT FEAR falls again.
        LampCave again = Check.in("wr09 p0999 p0009 p0009");
        again.fear(0, 36);
        Check.layRow(again, 0, 2, 0, 0);
        again.judge(0);
        Check.due("OVER first, not at the end", again.asked(), 1);
    }

    /** "(Each MINUTE with who has it as told, also when it is OVER.)" */
    private static void judgeGoesOn() {
        LampCave x = Check.in("wr00 p0401 p0009");
        Check.layRow(x, 0, 0, 0, 0, 0, 1);
        Check.due("judge(0) goes on behind OVER", x.judge(0), 4);
        Check.due("judge(0) goes on behind OVER, asked()", x.asked(), 2);
        x.fear(0, 99);
        Check.due("judge(0) goes on when OVER", x.judge(0), 4);
        Check.due("judge(0) goes on when OVER, asked()", x.asked(), 0);
        // As told, though not by THE LAW: turns go on from who had it, but the first other one is told.
        LampCave turns = Check.in("wr10 p0009 p0009 p0009");
        Check.layRow(turns, 0, 0, 2, 0, 1);
        Check.due("judge(0) by turns", turns.judge(0), 1);
        // 2 has it, as told, and so 0's FEAR grows.
        LampCave told = Check.in("wr09 p4101 p0009 p0009");
        Check.layRow(told, 0, 2);
        Check.due("judge(0) as told", told.judge(0), 0);
        Check.due("judge(0) as told, OVER", told.asked(), 1);
    }

    /** A ROW has 0 to 60 handings; from MINUTE 120 on they are judged, too. */
    private static void judgeSizes() {
        for (int n : new int[] {1, 59, 60}) {
            LampCave x = Check.in("wr19 p0009");
            x.minutes(60);
            x.minutes(60);
            x.row(2, n);
            Check.due("judge(2) of " + n, x.judge(2), n);
            Check.due("judge(2) of " + n + ", the MINUTE", x.count(1), 120);
        }
        LampCave last = Check.in("wr19 p0009 p0009");
        last.row(2, 60);
        for (int k = 1; k < 59; k += 2) {
            last.lay(2, k, 1);
        }
        Check.due("judge(2), the 60th is another", last.judge(2), 59);
    }

    private interface OfRow {
        int ask(LampCave x, int r);
    }

    /** judge(), liars(): "BAD; STATE; NOTHING; UNLIKE. (In this order.)"; grows(), fears(): "BAD; NOTHING; UNLIKE." */
    private static void handingsRefusedInOrder() {
        String[] names = {"judge", "liars", "grows", "fears"};
        OfRow[] calls = {LampCave::judge, LampCave::liars, (x, r) -> x.grows(4, r), (x, r) -> x.fears(4, r)};
        for (int c = 0; c < calls.length; c++) {
            OfRow call = calls[c];
            for (int r : Bounds.outside(0, 5)) {
                Bounds.refused(names[c] + " of ROW " + r, Bounds::lived, x -> call.ask(x, r), Check.BAD);
                Bounds.refused(names[c] + " of ROW " + r + " without PEOPLE", Bounds::empty, x -> call.ask(x, r), Check.BAD);
            }
            // Without PEOPLE there is no one 4, either.
            int without = c < 2 ? Check.STATE : Check.BAD;
            for (int r : new int[] {1, 3, 4}) {
                Bounds.refused(names[c] + " of ROW " + r + " without PEOPLE", Bounds::empty, x -> call.ask(x, r), without);
            }
            Bounds.finds(names[c] + " of a ROW missing", Bounds::lived, x -> call.ask(x, 4), Check.NOTHING);
            Bounds.finds(names[c] + " of a ROW missing, OVER", Bounds::livedOver, x -> call.ask(x, 4), Check.NOTHING);
            Bounds.finds(names[c] + " with 5 of five", Bounds::lived, x -> call.ask(x, 3), Check.UNLIKE);
            Bounds.finds(names[c] + " with many", Bounds::lived, x -> call.ask(x, 0), Check.UNLIKE);
        }
        for (int who : Bounds.outside(0, 4)) {
            for (int r : new int[] {2, 3, 4}) {
                Bounds.refused("grows(" + who + ", " + r + ")", Bounds::lived, x -> x.grows(who, r), Check.BAD);
                Bounds.refused("fears(" + who + ", " + r + ")", Bounds::lived, x -> x.fears(who, r), Check.BAD);
            }
        }
    }

    /** "UNLIKE: none of PEOPLE": -1 and as many as there are, at the first and at the last place, 60 places too. */
    private static void handingsOfNone() {
        for (int none : Bounds.outside(0, 4)) {
            for (int place : new int[] {0, 59}) {
                Supplier<LampCave> made = () -> {
                    LampCave x = Bounds.lived();
                    x.row(5, 60);
                    x.lay(5, place, none);
                    return x;
                };
                Bounds.finds("judge with " + none + " at " + place, made, x -> x.judge(5), Check.UNLIKE);
                Bounds.finds("liars with " + none + " at " + place, made, x -> x.liars(5), Check.UNLIKE);
                Bounds.finds("grows with " + none + " at " + place, made, x -> x.grows(0, 5), Check.UNLIKE);
                Bounds.finds("fears with " + none + " at " + place, made, x -> x.fears(0, 5), Check.UNLIKE);
            }
        }
        LampCave at = Check.in("wr19 p0009 p0009 p0009 p0009 p0009");
        Check.layRow(at, 0, 0, 1, 2, 3, 4);
        Check.due("judge with 0 to 4 of five", at.judge(0), 5);
        LampCave one = Check.in("wr19 p0009");
        Check.layRow(one, 0, 1);
        Check.found("judge with 1 of one", one, one.judge(0), Check.UNLIKE);
        // What a smaller ROW left behind is none of its places.
        Check.layRow(one, 0, 0, 0, 7);
        one.row(0, 2);
        Check.due("judge of what is there alone", one.judge(0), 2);
    }

    /** "Which sets of PEOPLE can be those who lie (.. GUIDES never) ..: how many sets": of one to five, GUIDES none to all. */
    private static void liarsSets() {
        for (int many = 1; many <= 5; many++) {
            for (int guides = 0; guides <= many; guides++) {
                LampCave x = Check.in("wr19" + " g0009".repeat(guides) + " l0009".repeat(many - guides));
                x.row(0, 0);
                Check.due("liars of " + many + ", GUIDES " + guides, x.liars(0), 1 << (many - guides));
                Check.due("liars of " + many + ", GUIDES " + guides + ", the least", x.asked(), 0);
                x.row(0, 1);
                Check.due("liars by turns, GUIDES " + guides, x.liars(0), 1 << (many - guides));
            }
        }
    }

    /** "The least by asked() (NONE: none)"; "instead of those who do". */
    private static void liarsLeast() {
        for (int who = 0; who < 5; who++) {
            LampCave x = Check.in("wr09 l9009 l9009 l9009 l9009 l9009");
            Check.layRow(x, 0, who);
            // To who, if that one lies and no one ahead does; those behind may: but to 0 also, if nobody lies.
            int due = 1 << (4 - who);
            Check.due("liars, to " + who, x.liars(0), who == 0 ? 17 : due);
            Check.due("liars, to " + who + ", the least", x.asked(), who == 0 ? 0 : 1 << who);
        }
        LampCave all = Check.in("wr09 p0009 p9009");
        Check.layRow(all, 0, 0);
        Check.due("9 more is as much: the first", all.liars(0), 1);
        Check.due("9 more is as much: the first, the least", all.asked(), 1);
        all.fear(1, 10);
        Check.due("9 more is less than 10", all.liars(0), 0);
        Check.due("9 more is less than 10, NONE", all.asked(), Check.NONE);
        LampCave guide = Check.in("wr09 g9009 p0009");
        Check.layRow(guide, 0, 0);
        Check.due("never to a GUIDE", guide.liars(0), 0);
        Check.due("never to a GUIDE, NONE", guide.asked(), Check.NONE);
    }

    /** "By which GROWS (0 .. 9, bits) of one all handings in a ROW are by THE LAW." */
    private static void growsBits() {
        LampCave x = Check.in("wr09 p5009 p0009 p0009");
        x.row(0, 0);
        Check.due("grows(2, 0) of no handings", x.grows(2, 0), ALL_FIGURES);
        for (int fear = 0; fear <= 9; fear++) {
            // 0 has the lamp and keeps FEAR; 2's is GROWS more behind the first MINUTE.
            x.fear(0, fear);
            Check.layRow(x, 0, 0, 0);
            int upTo = (1 << (fear + 1)) - 1;
            Check.due("grows(2, 0) up to " + fear, x.grows(2, 0), upTo);
            Check.layRow(x, 0, 0, 2);
            Check.due("grows(2, 0) above " + fear, x.grows(2, 0), ALL_FIGURES - upTo);
        }
        Check.layRow(x, 0, 1);
        Check.due("grows(0, 0) by none", x.grows(0, 0), 0);
        x.law(1);
        Check.layRow(x, 0, 0, 1, 2, 0);
        Check.due("grows(0, 0) by turns", x.grows(0, 0), ALL_FIGURES);
        Check.due("grows(2, 0) by turns", x.grows(2, 0), ALL_FIGURES);
    }

    /** "Likewise by which FEAR as it is now (0 .. 9, bits)." */
    private static void fearsBits() {
        LampCave x = Check.in("wr09 p5009 p0009 p0009");
        x.row(0, 0);
        Check.due("fears(2, 0) of no handings", x.fears(2, 0), ALL_FIGURES);
        for (int fear = 0; fear <= 10; fear++) {
            x.fear(0, fear);
            Check.layRow(x, 0, 0);
            int upTo = fear < 10 ? (1 << (fear + 1)) - 1 : ALL_FIGURES;
            Check.due("fears(2, 0) up to " + fear, x.fears(2, 0), upTo);
            Check.layRow(x, 0, 2);
            Check.due("fears(2, 0) above " + fear, x.fears(2, 0), ALL_FIGURES - upTo);
        }
        // FEAR as it is now may be above 9; it is then not among these.
        x.fear(2, 44);
        Check.due("fears(2, 0) of 44", x.fears(2, 0), 0);
        Check.told("FEAR stays", x, x.person(2, 1), 44);
    }

    /** "All handings in a ROW are by THE LAW", also when it is OVER, as judge() has it. */
    private static void learntWhenOver() {
        LampCave x = Check.in("wr00 p9001 p0009 p0009");
        Check.layRow(x, 0, 0, 0);
        Check.due("judge(0) when OVER", x.judge(0), 2);
        Check.due("liars(0) when OVER: 9 is as much as 9, the first", x.liars(0), 8);
        Check.due("grows(0, 0) when OVER", x.grows(0, 0), ALL_FIGURES);
        Check.due("grows(1, 0) when OVER", x.grows(1, 0), ALL_FIGURES);
        Check.due("fears(0, 0) when OVER", x.fears(0, 0), ALL_FIGURES);
    }

    private static void learntChangesNothing() {
        LampCave x = Bounds.lived();
        int grows = x.grows(0, 2);
        int fears = x.fears(4, 2);
        Bounds.leavesAll("grows(0, 2)", Bounds::lived, y -> y.grows(0, 2), grows);
        Bounds.leavesAll("fears(4, 2)", Bounds::lived, y -> y.fears(4, 2), fears);
        long digest = x.digest();
        x.judge(2);
        x.liars(2);
        Check.due("judge(2), liars(2) aside", x.digest(), digest);
    }

    /** "Handings by a LAW of n (0 .. 60) MINUTES (or till it is OVER)": "how many". */
    private static void tellBounds() {
        for (int n : new int[] {0, 1, 59, 60}) {
            LampCave x = Check.in("wr09 p0009 p0009");
            Check.due("tell(1, " + n + ", 0)", x.tell(1, n, 0), n);
            for (int k = 0; k < n; k++) {
                Check.told("tell(1, " + n + ", 0), " + k, x, x.at(0, k), k % 2);
            }
            Check.found("tell(1, " + n + ", 0), no more", x, x.at(0, n), Check.BEYOND);
        }
        int[] asked = {44, 45, 46, 60};
        int[] due = {44, 45, 45, 45};
        for (int k = 0; k < asked.length; k++) {
            LampCave x = Check.in("wr00 p0109");
            Check.due("tell(0, " + asked[k] + ", 0) till OVER", x.tell(0, asked[k], 0), due[k]);
            Check.rowIs("tell(0, " + asked[k] + ", 0) till OVER", x, 0, new int[due[k]]);
        }
        int[][] by = {{1, 1, 1}, {0, 1, 2}, {0, 1, 1}, {0, 0, 1}};
        for (int law = 0; law <= 3; law++) {
            LampCave x = Check.in("wr09 p0009 p9009 p0009");
            Check.due("tell(" + law + ", 3, 0)", x.tell(law, 3, 0), 3);
            Check.rowIs("tell(" + law + ", 3, 0)", x, 0, by[law]);
            Check.due("THE LAW stays", x.law(0), 0);
        }
        LampCave full = Check.in("wr19 p0009 p0009");
        full.minutes(60);
        full.minutes(60);
        Check.due("tell(1, 60, 0) at MINUTE 120", full.tell(1, 60, 0), 60);
        Check.due("tell(1, 60, 0) aside", full.count(1), 120);
    }

    /** "Come to a ROW (anew)": to one that was missing, larger or smaller. */
    private static void tellComesToARow() {
        for (int r = 0; r <= 5; r++) {
            LampCave x = Bounds.livedOver();
            Check.due("tell(0, 60, " + r + ") when OVER", x.tell(0, 60, r), 0);
            Check.rowIs("tell(0, 60, " + r + ") when OVER", x, r);
            Check.due("tell(0, 60, " + r + "), count(6)", x.count(6), r == 4 ? 6 : 5);
            x.row(r, 60);
            x.fear(3, 0);
            Check.due("tell(3, 2, " + r + ")", x.tell(3, 2, r), 2);
            Check.due("tell(3, 2, " + r + "), no more", x.at(r, 2), Check.FINDING);
        }
    }

    /** "BAD; STATE: no PEOPLE." */
    private static void tellRefused() {
        for (int law : Bounds.outside(0, 3)) {
            Bounds.refused("tell(" + law + ", 1, 0)", Bounds::lived, x -> x.tell(law, 1, 0), Check.BAD);
            Bounds.refused("tell(" + law + ", 1, 0) without PEOPLE", Bounds::empty, x -> x.tell(law, 1, 0), Check.BAD);
        }
        for (int n : Bounds.outside(0, 60)) {
            Bounds.refused("tell(0, " + n + ", 0)", Bounds::lived, x -> x.tell(0, n, 0), Check.BAD);
            Bounds.refused("tell(0, " + n + ", 0) without PEOPLE", Bounds::empty, x -> x.tell(0, n, 0), Check.BAD);
        }
        for (int r : Bounds.outside(0, 5)) {
            Bounds.refused("tell(0, 1, " + r + ")", Bounds::lived, x -> x.tell(0, 1, r), Check.BAD);
            Bounds.refused("tell(0, 1, " + r + ") without PEOPLE", Bounds::empty, x -> x.tell(0, 1, r), Check.BAD);
        }
        Bounds.refused("tell(0, 0, 0) without PEOPLE", Bounds::empty, x -> x.tell(0, 0, 0), Check.STATE);
        Bounds.refused("tell(3, 60, 5) without PEOPLE", Bounds::empty, x -> x.tell(3, 60, 5), Check.STATE);
    }

    /** "n (1 .. 60) MINUTES aside, till it is OVER ..: how many MINUTES went; the greatest FEAR then by asked()." */
    private static void visitBounds() {
        int[] asked = {1, 2, 44, 45, 46, 59, 60};
        int[] due = {1, 2, 44, 45, 45, 45, 45};
        for (int k = 0; k < asked.length; k++) {
            LampCave x = Check.in("wr00 p0109 p0009 p0009");
            Check.due("visit(" + asked[k] + ", 7)", x.visit(asked[k], 7), due[k]);
            Check.due("visit(" + asked[k] + ", 7), asked()", x.asked(), due[k]);
            Check.due("visit(" + asked[k] + ", 7) aside", x.count(1), 0);
        }
        LampCave still = Check.in("wr09 p0009 p7009");
        Check.due("visit(60, 1)", still.visit(60, 1), 60);
        Check.due("visit(60, 1), asked()", still.asked(), 7);
        Check.due("visit(60, 1) burns no OIL", still.count(2), 90);
        LampCave over = Bounds.livedOver();
        Check.due("visit(1, 1) when OVER", over.visit(1, 1), 0);
        Check.due("visit(1, 1) when OVER, asked()", over.asked(), 45);
        LampCave full = Bounds.livedFull();
        long digest = full.digest();
        Check.that("visit(60, 1) at MINUTE 120", full.visit(60, 1) > 0);
        Check.due("visit(60, 1) at MINUTE 120 aside", full.digest(), digest);
    }

    /** "A number comes from the one ahead by 48271 times it modulo 2147483647, the first from a seed (1 .. 2147483646)." */
    private static void visitLots() {
        for (int seed : new int[] {1, 2, 44488, 44489, 1073741823, 2147483645, 2147483646}) {
            for (int many = 1; many <= 5; many++) {
                // FEAR of all is 40, and falls by 1 for who has the lamp: all sit BESIDE or not, none GROWS.
                LampCave x = Check.in("wr09" + " p9019".repeat(many));
                int[] fears = new int[many];
                for (int who = 0; who < many; who++) {
                    fears[who] = 40 - who;
                    x.fear(who, 40 - who);
                }
                long lot = seed;
                for (int n = 1; n <= 12; n++) {
                    lot = lot * 48271L % 2147483647L;
                    fears[(int) (lot % many)]--;
                    int greatest = 0;
                    for (int fear : fears) {
                        greatest = Math.max(greatest, fear);
                    }
                    Check.due("visit(" + n + ", " + seed + ") of " + many, x.visit(n, seed), n);
                    Check.due("visit(" + n + ", " + seed + ") of " + many + ", asked()", x.asked(), greatest);
                }
            }
        }
    }

    /** "BAD; STATE: no PEOPLE." */
    private static void visitRefused() {
        for (int n : Bounds.outside(1, 60)) {
            Bounds.refused("visit(" + n + ", 1)", Bounds::lived, x -> x.visit(n, 1), Check.BAD);
            Bounds.refused("visit(" + n + ", 1) without PEOPLE: BAD first", Bounds::empty, x -> x.visit(n, 1), Check.BAD);
            Bounds.refused("visit(" + n + ", 1) when OVER", Bounds::livedOver, x -> x.visit(n, 1), Check.BAD);
        }
        for (int seed : Bounds.outside(1, 2147483646)) {
            Bounds.refused("visit(1, " + seed + ")", Bounds::lived, x -> x.visit(1, seed), Check.BAD);
            Bounds.refused("visit(1, " + seed + ") without PEOPLE: BAD first", Bounds::empty, x -> x.visit(1, seed), Check.BAD);
        }
        Bounds.refused("visit(1, 1) without PEOPLE", Bounds::empty, x -> x.visit(1, 1), Check.STATE);
        Bounds.refused("visit(60, 2147483646) at first", LampCave::new, x -> x.visit(60, 2147483646), Check.STATE);
    }
}

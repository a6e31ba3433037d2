/** Boundary cases of the small language: FAULTS (promise 10) and what a CAVE by a TEXT is (promise 11). */
public final class BoundsTextsTest {
    private static final int[] WRONG_TEXTS = Bounds.outside(0, 3);

    public static void main(String[] args) {
        everySignAtEveryPlace();
        cutShort();
        blanksAlone();
        blanksBetween();
        blanksWithin();
        upTo80Bytes();
        peopleUpToFive();
        aSixthOne();
        firstFault();
        faultChangesNothing();
        faultRefused();
        figuresRead();
        kindsRead();
        caveAnew();
        caveWithoutPeople();
        caveRefused();
        Check.end();
    }

    private static String all(char from, char to) {
        StringBuilder signs = new StringBuilder();
        for (char c = from; c <= to; c++) {
            signs.append(c);
        }
        return signs.toString();
    }

    /**
     * "The first item is w, the FORM (r, o), the LAW (0 .. 3), the OIL (0 .. 9), one figure each; then PEOPLE: a letter,
     * FEAR (0 .. 9), GROWS (0 .. 9), FALLS (0 .. 9), SCREAMS (1 .. 9)." "A letter, a figure that is none such: its place."
     */
    private static void everySignAtEveryPlace() {
        String figures = all('0', '9');
        String[] wanted = {"w", "ro", "0123", figures, " ", "pcklsg", figures, figures, figures, all('1', '9')};
        for (int place = 0; place < wanted.length; place++) {
            LampCave x = null;
            for (int v = -128; v <= 127; v++) {
                // Few calls on one object: it is used for 512 at most.
                if ((v & 63) == 0) {
                    x = new LampCave();
                    Check.write(x, 0, "wo39 p9999");
                }
                int was = x.put(0, place, v) - 1000;
                boolean fits = v > 0 && wanted[place].indexOf(v) >= 0;
                int due = fits ? Check.NONE : place;
                if (v == 32 && (place == 0 || place == 5)) {
                    // A blank ahead of an item: what comes behind it is no w, no letter.
                    due = place + 1;
                }
                if (place == 4 && "pcklsg".indexOf(v) >= 0) {
                    // No blank between, but a letter: then the letter behind it is no figure.
                    due = 5;
                }
                Check.due("fault with " + v + " at place " + place, x.fault(0), due);
                x.put(0, place, was);
            }
        }
    }

    private static int faultOf(String signs) {
        LampCave x = new LampCave();
        Check.write(x, 3, signs);
        return x.fault(3);
    }

    private static void faultIs(String signs, int due) {
        Check.due("fault of '" + signs + "'", faultOf(signs), due);
    }

    /** "The TEXT's size, if its end comes too early." */
    private static void cutShort() {
        String whole = " wr21 p1234  k5678c9991";
        for (int size = 0; size <= whole.length(); size++) {
            boolean ends = size == 5 || size == 6 || size == 11 || size == 12 || size == 13 || size == 18 || size == 23;
            faultIs(whole.substring(0, size), ends ? Check.NONE : size);
        }
    }

    /** "The TEXT's size, if .. there are blanks alone." */
    private static void blanksAlone() {
        for (int n : new int[] {0, 1, 2, 79, 80}) {
            LampCave x = new LampCave();
            x.text(0, n);
            Check.due("fault of " + n + " blanks", x.fault(0), n);
            Check.due("cave of " + n + " blanks", x.cave(0), Check.STATE);
        }
    }

    /** "Blanks (32) ahead, between, behind as many as wanted." */
    private static void blanksBetween() {
        for (int ahead = 0; ahead <= 3; ahead++) {
            for (int between = 0; between <= 3; between++) {
                for (int behind = 0; behind <= 3; behind++) {
                    String gap = " ".repeat(between);
                    String signs = " ".repeat(ahead) + "wr03" + gap + "p5235" + gap + "g1119" + " ".repeat(behind);
                    faultIs(signs, Check.NONE);
                    Check.due("PEOPLE of '" + signs + "'", Check.in(signs).count(0), 2);
                }
            }
        }
        // Another sign than 32 is no blank.
        for (int sign : new int[] {0, 9, 10, 13, 31, 33, 160}) {
            faultIs((char) sign + "wr03", 0);
            faultIs("wr03" + (char) sign, 4);
            faultIs("wr03 p5235" + (char) sign, 10);
        }
    }

    /** "None within items." */
    private static void blanksWithin() {
        String[] items = {"wr03", "p5235"};
        for (int cut = 1; cut < 4; cut++) {
            faultIs(items[0].substring(0, cut) + " " + items[0].substring(cut) + " p5235", cut);
        }
        for (int cut = 1; cut < 5; cut++) {
            faultIs("wr03 " + items[1].substring(0, cut) + " " + items[1].substring(cut), 5 + cut);
        }
    }

    /** "TEXTS .. rows of 0 to 80 bytes": a CAVE may need the last of them, and end too early there. */
    private static void upTo80Bytes() {
        String gap = " ".repeat(71);
        faultIs("wr03" + gap + "p5235", Check.NONE);
        faultIs("wr03" + gap + " p523", 80);
        faultIs("wr03" + gap + "p5230", 79);
        faultIs(" ".repeat(76) + "wr03", Check.NONE);
        faultIs(" ".repeat(77) + "wr0", 80);
        Check.due("cave of 80 bytes", Check.in("wr03" + gap + "p5235").count(0), 1);
    }

    /** "PEOPLE (5 at most, none, too; 0, 1, .. as they come, as they sit)". */
    private static void peopleUpToFive() {
        StringBuilder signs = new StringBuilder("wr03");
        for (int many = 0; many <= 5; many++) {
            LampCave x = new LampCave();
            Check.write(x, 0, signs.toString());
            Check.due("fault with " + many, x.fault(0), Check.NONE);
            Check.due("cave with " + many, x.cave(0), many);
            Check.due("count(0) with " + many, x.count(0), many);
            for (int who = 0; who < many; who++) {
                Check.told("FEAR of " + who + " of " + many, x, x.person(who, 1), who);
            }
            signs.append(" p").append(many).append("119");
        }
    }

    /** "A sixth one: the letter." */
    private static void aSixthOne() {
        String five = "wr03 p0001 c0001 k0001 l0001 s0001";
        faultIs(five, Check.NONE);
        faultIs(five + "   ", Check.NONE);
        for (char letter : "pcklsgwx1".toCharArray()) {
            faultIs(five + letter, 34);
            faultIs(five + "  " + letter + "0001", 36);
        }
        LampCave x = new LampCave();
        Check.write(x, 0, five + " g0001");
        Check.due("cave with a sixth one", x.cave(0), Check.STATE);
        Check.due("no PEOPLE by it", x.count(0), 0);
    }

    /** "A FAULT is the first place at which it can't go on so": of several, the first. */
    private static void firstFault() {
        faultIs("xx99 q0000", 0);
        faultIs("wx99 q0000", 1);
        faultIs("wr99 q0000", 2);
        faultIs("wr3x q0000", 3);
        faultIs("wr39 q0000", 5);
        faultIs("wr39 px000", 6);
        faultIs("wr39 p0xx0", 7);
        faultIs("wr39 p00x0", 8);
        faultIs("wr39 p0000", 9);
        faultIs("wr39 p0001 p0000 q", 15);
    }

    private static void faultChangesNothing() {
        for (int t : new int[] {0, 1, 2}) {
            int due = t == 0 ? Check.NONE : t == 1 ? 0 : 9;
            Bounds.leavesAll("fault(" + t + ")", Bounds::lived, x -> x.fault(t), due);
        }
    }

    /** "BAD; NOTHING." */
    private static void faultRefused() {
        for (int t : WRONG_TEXTS) {
            Bounds.refused("fault(" + t + ")", Bounds::lived, x -> x.fault(t), Check.BAD);
        }
        Bounds.finds("fault(3)", Bounds::lived, x -> x.fault(3), Check.NOTHING);
    }

    /** "OIL (0 .. 9, times 10)", "SCREAMS (1 .. 9, times 5)", "the LAW (0 .. 3)", "one figure each". */
    private static void figuresRead() {
        for (int v = 0; v <= 9; v++) {
            LampCave x = Check.in("wr" + v % 4 + v + " p" + v + (9 - v) + (v + 3) % 10 + (v == 0 ? 1 : v));
            int[] due = {0, v, 9 - v, (v + 3) % 10, 5 * (v == 0 ? 1 : v), v};
            for (int what = 0; what <= 5; what++) {
                Check.told("person(0, " + what + ") with " + v, x, x.person(0, what), due[what]);
            }
            Check.due("OIL with " + v, x.count(2), 10 * v);
            Check.due("THE LAW with " + v, x.law(0), v % 4);
        }
    }

    /** "0 ONE (p), 1 CALM (c), 2 CHILD (k), 3 LIAR (l), 4 SINGER (s), 5 GUIDE (g)." */
    private static void kindsRead() {
        String letters = "pcklsg";
        for (int kind = 0; kind <= 5; kind++) {
            LampCave x = Check.in("wr00 " + letters.charAt(kind) + "0001");
            Check.told("the KIND of " + letters.charAt(kind), x, x.person(0, 0), kind);
        }
    }

    /** "Anew: MINUTE 0, nobody had the lamp; kept CAVES go." */
    private static void caveAnew() {
        LampCave x = Bounds.livedOver();
        long asked = x.asked();
        int finding = x.finding();
        Check.due("cave(0) anew", x.cave(0), 5);
        Check.due("asked() stays", x.asked(), asked);
        Check.due("finding() stays", x.finding(), finding);
        LampCave fresh = Check.in(Bounds.LIVED_IN);
        for (int what = 0; what <= 5; what++) {
            Check.due("anew: count(" + what + ")", x.count(what), fresh.count(what));
        }
        for (int who = 0; who < 5; who++) {
            for (int what = 0; what <= 5; what++) {
                fresh.person(who, what);
                Check.told("anew: person(" + who + ", " + what + ")", x, x.person(who, what), fresh.asked());
            }
        }
        Check.found("anew: had(0)", x, x.had(0), Check.BEYOND);
        Check.due("anew: undo(0)", x.undo(0), 0);
        Check.due("anew: undo(1)", x.undo(1), Check.BAD);
        for (int k = 0; k <= 2; k++) {
            Check.found("anew: on(" + k + ")", x, x.on(k), Check.NOTHING);
        }
        Check.due("anew: THE LAW is the TEXT's", x.law(0), 1);
        for (int law = 1; law <= 3; law++) {
            x.law(law);
            Check.due("anew: next() by LAW " + law, x.next(), 0);
        }
        Check.due("ROWS stay", x.count(6), 5);
        Check.due("TEXTS stay", x.count(7), 3);
    }

    /** "PEOPLE (.. none, too ..)": "OIL (0 without PEOPLE)", "the FORM (.. 0 without PEOPLE), THE LAW (0 without PEOPLE)". */
    private static void caveWithoutPeople() {
        LampCave x = Bounds.lived();
        Check.write(x, 3, "wo39");
        Check.due("cave(3) without PEOPLE", x.cave(3), 0);
        int[] due = {0, 0, 0, 0, 0, 0, 5, 4};
        for (int what = 0; what <= 7; what++) {
            Check.due("without PEOPLE count(" + what + ")", x.count(what), due[what]);
        }
        Check.found("without PEOPLE had(0)", x, x.had(0), Check.BEYOND);
        // The digest tells of FORM and THE LAW: it is the one of an object that never had PEOPLE.
        for (String form : new String[] {"wr00", "wo00", "wr30", "wr09", " wo39 "}) {
            LampCave without = Check.in("wo39 p9999");
            Check.write(without, 0, form);
            Check.due("cave(0) of '" + form + "'", without.cave(0), 0);
            LampCave never = new LampCave();
            Check.write(never, 0, form);
            Check.due("'" + form + "' without PEOPLE, digest()", without.digest(), never.digest());
        }
    }

    /** "BAD; NOTHING; STATE: a FAULT. (STATE behind NOTHING.)" */
    private static void caveRefused() {
        for (int t : WRONG_TEXTS) {
            Bounds.refused("cave(" + t + ")", Bounds::lived, x -> x.cave(t), Check.BAD);
            Bounds.refused("cave(" + t + ") without PEOPLE", Bounds::empty, x -> x.cave(t), Check.BAD);
        }
        Bounds.finds("cave(3)", Bounds::lived, x -> x.cave(3), Check.NOTHING);
        Bounds.finds("cave(3) without PEOPLE", Bounds::empty, x -> x.cave(3), Check.NOTHING);
        Bounds.refused("cave(1), none of bytes", Bounds::lived, x -> x.cave(1), Check.STATE);
        Bounds.refused("cave(2), the last figure none such", Bounds::lived, x -> x.cave(2), Check.STATE);
        Bounds.refused("cave(2) without PEOPLE", Bounds::empty, x -> x.cave(2), Check.STATE);
        Bounds.refused("cave(2) at MINUTE 120", Bounds::livedFull, x -> x.cave(2), Check.STATE);
    }
}

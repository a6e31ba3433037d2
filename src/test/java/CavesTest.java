/** Promises 11 to 16: cave, person, mark, law, oil, fear. */
public final class CavesTest {
    public static void main(String[] args) {
        caves();
        cavesWithoutPeople();
        people();
        marks();
        settings();
        Check.end();
    }

    private static void caves() {
        LampCave x = new LampCave();
        Check.due("cave(-1)", x.cave(-1), Check.BAD);
        Check.due("cave(4)", x.cave(4), Check.BAD);
        Check.found("cave(1)", x, x.cave(1), Check.NOTHING);
        Check.write(x, 1, "wo15 p1239 c0001");
        Check.due("cave(1) of two", x.cave(1), 2);
        Check.due("count(2)", x.count(2), 50);
        Check.due("minutes(3)", x.minutes(3), 3);
        x.keep(0);
        x.keep(2);
        Check.due("count(5)", x.count(5), 2);
        x.text(2, 1);
        long before = x.digest();
        Check.due("cave(2) with a FAULT", x.cave(2), Check.STATE);
        Check.due("a FAULT changes nothing", x.digest(), before);
        Check.due("cave(1) anew", x.cave(1), 2);
        Check.due("anew: count(1)", x.count(1), 0);
        Check.due("anew: count(5)", x.count(5), 0);
        Check.found("anew: on(0)", x, x.on(0), Check.NOTHING);
        Check.found("anew: had(0)", x, x.had(0), Check.BEYOND);
        Check.due("anew: next() by turns is 0", x.next(), 0);
        x.put(1, 0, 'x');
        Check.due("the CAVE goes on without its TEXT", x.count(0), 2);
    }

    private static void cavesWithoutPeople() {
        LampCave x = Check.in("wo37 p1239");
        x.keep(1);
        Check.write(x, 3, " wo37 ");
        Check.due("cave without PEOPLE", x.cave(3), 0);
        Check.due("its OIL", x.count(2), 0);
        Check.due("kept go", x.count(5), 0);
        Check.due("law(1)", x.law(1), Check.STATE);
        Check.due("law(4)", x.law(4), Check.BAD);
        Check.due("oil(1)", x.oil(1), Check.STATE);
        Check.due("minutes(0)", x.minutes(0), Check.STATE);
        Check.due("hand(0)", x.hand(0), Check.BAD);
        Check.due("next()", x.next(), Check.STATE);
        Check.due("story(0)", x.story(0), Check.BAD);
        Check.due("song(5)", x.song(5), Check.STATE);
        Check.due("keep(0)", x.keep(0), Check.STATE);
        Check.due("holds(0)", x.holds(0), Check.STATE);
        Check.due("best()", x.best(), Check.STATE);
        Check.due("rest()", x.rest(), Check.STATE);
        Check.due("worst(0)", x.worst(0), Check.STATE);
        Check.due("often(0, 0)", x.often(0, 0), Check.BAD);
        Check.due("longest(0)", x.longest(0), Check.STATE);
        Check.due("calmest(0, 0)", x.calmest(0, 0), Check.STATE);
        Check.due("order(0)", x.order(0), Check.STATE);
        Check.due("swap()", x.swap(), Check.STATE);
        Check.due("spare(0)", x.spare(0), Check.STATE);
        Check.due("teller()", x.teller(), Check.STATE);
        Check.due("judge(0): STATE ahead of NOTHING", x.judge(0), Check.STATE);
        Check.due("liars(0): STATE ahead of NOTHING", x.liars(0), Check.STATE);
        Check.due("grows(0, 0)", x.grows(0, 0), Check.BAD);
        Check.due("fears(0, 0)", x.fears(0, 0), Check.BAD);
        Check.due("tell(0, 0, 0)", x.tell(0, 0, 0), Check.STATE);
        Check.due("visit(1, 1)", x.visit(1, 1), Check.STATE);
        Check.due("no FINDING in these", x.finding(), 0);
        long h = 17;
        int[] told = {0, 0, 0, 0, 0, 0, 0, 1, 0, 0, -1, -1, -1, -1, -1, -1, -1, -1, -1};
        LampCave y = new LampCave();
        Check.write(y, 0, "wo37");
        y.cave(0);
        for (int v : told) {
            h = 31 * h + v;
        }
        int[] text = {4, 'w', 'o', '3', '7', -1, -1, -1};
        for (int v : text) {
            h = 31 * h + v;
        }
        Check.due("its digest()", y.digest(), h);
    }

    private static void people() {
        LampCave x = Check.in("wr00 p5235 c1469 k0001 l9872 g7123");
        int[][] due = {{0, 5, 2, 3, 25, 5}, {1, 1, 4, 6, 45, 1}, {2, 0, 0, 0, 5, 0}, {3, 9, 8, 7, 10, 18}, {5, 7, 1, 2, 15, -1}};
        for (int who = 0; who < 5; who++) {
            for (int what = 0; what <= 5; what++) {
                Check.told("person(" + who + ", " + what + ")", x, x.person(who, what), due[who][what]);
            }
        }
        Check.due("person(5, 0)", x.person(5, 0), Check.BAD);
        Check.due("person(-1, 0)", x.person(-1, 0), Check.BAD);
        Check.due("person(0, 6)", x.person(0, 6), Check.BAD);
        Check.due("person(0, -1)", x.person(0, -1), Check.BAD);
        Check.due("asked() stays", x.asked(), -1);
        LampCave y = Check.in("wr00 s4111");
        Check.told("a SINGER's KIND", y, y.person(0, 0), 4);
    }

    private static void marks() {
        LampCave x = Check.in("wr09 s3119 k4119 g9119 l4119 s5119");
        Check.due("mark(0, 0)", x.mark(0, 0), Check.BAD);
        Check.due("mark(0, 6)", x.mark(0, 6), Check.BAD);
        Check.due("mark(5, 1)", x.mark(5, 1), Check.BAD);
        Check.due("mark(-1, 1)", x.mark(-1, 1), Check.BAD);
        Check.found("mark(1, 1)", x, x.mark(1, 1), Check.UNLIKE);
        Check.found("mark(2, 4)", x, x.mark(2, 4), Check.UNLIKE);
        Check.found("mark(0, 5)", x, x.mark(0, 5), Check.UNLIKE);
        Check.due("mark(0, 1): a SINGER at the end of a row", x.mark(0, 1), 1);
        Check.due("mark(2, 1): a GUIDE in the middle", x.mark(2, 1), 2);
        Check.due("mark(1, 2)", x.mark(1, 2), 1);
        Check.due("mark(3, 3)", x.mark(3, 3), 2);
        Check.due("mark(0, 4)", x.mark(0, 4), 1);
        Check.due("mark(2, 5) at first", x.mark(2, 5), 0);
        x.hand(2);
        x.hand(0);
        x.hand(2);
        Check.due("mark(2, 5)", x.mark(2, 5), 2);
        x.undo(2);
        Check.due("mark(2, 5) undone", x.mark(2, 5), 1);
        LampCave ring = Check.in("wo09 c3119 k4119 p9119");
        Check.due("beside in a ring of three", ring.mark(0, 1), 2);
        LampCave two = Check.in("wo09 c3119 k4119");
        Check.due("beside in a ring of two", two.mark(0, 1), 1);
        LampCave one = Check.in("wo09 c3119");
        Check.due("beside in a ring of one", one.mark(0, 1), 0);
    }

    private static void settings() {
        LampCave x = Check.in("wr29 p5235");
        Check.due("law(0)", x.law(0), 2);
        Check.due("law(3)", x.law(3), 0);
        Check.due("law(-1)", x.law(-1), Check.BAD);
        Check.due("law(4)", x.law(4), Check.BAD);
        Check.due("law(3) again", x.law(3), 3);
        Check.due("oil(0)", x.oil(0), 90);
        Check.due("oil(99)", x.oil(99), 0);
        Check.due("oil(100)", x.oil(100), Check.BAD);
        Check.due("oil(-1)", x.oil(-1), Check.BAD);
        Check.due("count(2)", x.count(2), 99);
        Check.due("fear(0, 99)", x.fear(0, 99), 5);
        Check.due("fear(0, 0)", x.fear(0, 0), 99);
        Check.due("fear(0, 100)", x.fear(0, 100), Check.BAD);
        Check.due("fear(0, -1)", x.fear(0, -1), Check.BAD);
        Check.due("fear(1, 1)", x.fear(1, 1), Check.BAD);
        Check.due("fear(-1, 1)", x.fear(-1, 1), Check.BAD);
        Check.fearsAre("refused", x, 0);
        Check.due("asked() is not told by these", x.asked(), 0);
    }
}

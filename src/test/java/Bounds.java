import java.util.ArrayList;
import java.util.List;
import java.util.function.Supplier;

/** What the tests of boundary cases use: objects with a past, and refused calls compared with their not being made. */
final class Bounds {
    static final int MIN = Integer.MIN_VALUE, MAX = Integer.MAX_VALUE;

    /** Never OVER by any LAW in 120 MINUTES, and FEARS go up and down in it. */
    static final String LIVED_IN = "wo19 k5229 c8019 l5029 s7219 g8139";

    interface Call {
        long on(LampCave x);
    }

    private Bounds() {
    }

    /** Numbers that are none, if those from the least to the most are: next to these, and as far as can be. */
    static int[] outside(int least, int most) {
        return new int[] {least - 1, most + 1, MIN, MAX};
    }

    /** ROW 0 has ints, 1 none, 2 handings, 3 such that are none; 4 is missing, 5 as large as can be. */
    private static void layRows(LampCave x) {
        Check.layRow(x, 0, 11, -22, 33, MAX, MIN);
        x.row(1, 0);
        Check.layRow(x, 2, 0, 1, 2, 0);
        Check.layRow(x, 3, 0, 0, 5);
        x.row(5, 60);
        x.lay(5, 59, 60);
    }

    /** TEXT 1 has no bytes, 2 a FAULT at 9; 3 is missing. */
    private static void writeTexts(LampCave x) {
        x.text(1, 0);
        Check.write(x, 2, "wr03 p5230");
    }

    /** asked() tells 33, each FINDING was answered, NOUGHT the last. */
    private static void haveAsked(LampCave x) {
        x.tear(4);
        x.at(0, 5);
        x.judge(3);
        x.row(4, -1);
        x.mean(1);
        x.at(0, 2);
    }

    /** PEOPLE with MINUTES, a story and a song behind them, and two of three places kept in. */
    static LampCave lived() {
        LampCave x = Check.in(LIVED_IN);
        layRows(x);
        writeTexts(x);
        x.hand(2);
        x.keep(0);
        x.minutes(3);
        x.story(1);
        x.law(2);
        x.keep(2);
        x.hand(4);
        x.song(99);
        x.minutes(2);
        haveAsked(x);
        Check.due("lived: the MINUTE", x.count(1), 7);
        return x;
    }

    static LampCave livedOver() {
        LampCave x = lived();
        x.fear(3, 45);
        return x;
    }

    /** As lived(), at MINUTE 120. */
    static LampCave livedFull() {
        LampCave x = lived();
        x.minutes(60);
        x.minutes(53);
        Check.due("livedFull: the MINUTE", x.count(1), 120);
        return x;
    }

    static LampCave livedFullOver() {
        LampCave x = livedFull();
        x.fear(3, 45);
        return x;
    }

    /** ROWS and TEXTS, but no PEOPLE. */
    static LampCave empty() {
        LampCave x = Check.in("wo39");
        layRows(x);
        writeTexts(x);
        haveAsked(x);
        return x;
    }

    /** The call is refused so, by no FINDING, and all is then as if it had not been made. */
    static void refused(String call, Supplier<LampCave> made, Call does, int answer) {
        leavesAll(call, made, does, answer);
    }

    /** The call answers so, and all, asked() and finding() too, is then as if it had not been made. */
    static void leavesAll(String call, Supplier<LampCave> made, Call does, long answer) {
        LampCave x = made.get();
        LampCave y = made.get();
        Check.due(call, does.on(x), answer);
        Check.due(call + ": finding()", x.finding(), y.finding());
        compare(call, x, y, 0);
    }

    /** The call answers FINDING, and nothing else is changed than finding() and findings() of that one. */
    static void finds(String call, Supplier<LampCave> made, Call does, int finding) {
        LampCave x = made.get();
        LampCave y = made.get();
        Check.due(call, does.on(x), Check.FINDING);
        Check.due(call + ": finding()", x.finding(), finding);
        compare(call, x, y, finding);
    }

    private static void compare(String call, LampCave x, LampCave y, int finding) {
        for (int f = 1; f <= 5; f++) {
            Check.due(call + ": findings(" + f + ")", x.findings(f), y.findings(f) + (f == finding ? 1 : 0));
        }
        List<String> of = new ArrayList<>();
        List<Long> got = look(x, of);
        List<Long> want = look(y, new ArrayList<>());
        for (int i = 0; i < got.size() && i < want.size(); i++) {
            Check.due(call + ", then " + of.get(i), got.get(i), want.get(i));
        }
        Check.due(call + ", then how much is seen", got.size(), want.size());
    }

    /** Everything that an object tells of itself, its past MINUTES and kept CAVES too; the object is used up by it. */
    private static List<Long> look(LampCave x, List<String> of) {
        List<Long> seen = new ArrayList<>();
        see(seen, of, "asked()", x.asked());
        see(seen, of, "digest()", x.digest());
        seeCave(seen, of, "", x);
        for (int k = 0; k <= 2; k++) {
            see(seen, of, "on(" + k + ")", x.on(k));
            seeCave(seen, of, "on(" + k + "), ", x);
        }
        return seen;
    }

    private static void seeCave(List<Long> seen, List<String> of, String when, LampCave x) {
        see(seen, of, when + "upper()", x.upper());
        see(seen, of, when + "lower()", x.lower());
        for (int law = 0; law <= 3; law++) {
            see(seen, of, when + "holds(" + law + ")", x.holds(law));
        }
        int minute = x.count(1);
        for (int n : new int[] {minute, minute - 1, minute / 2, 0}) {
            see(seen, of, when + "undo(" + n + ")", x.undo(n));
            see(seen, of, when + "undo(" + n + "), digest()", x.digest());
            see(seen, of, when + "undo(" + n + "), next()", x.next());
        }
    }

    private static void see(List<Long> seen, List<String> of, String what, long told) {
        seen.add(told);
        of.add(what);
    }
}

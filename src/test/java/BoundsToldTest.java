import java.util.ArrayList;
import java.util.List;

/** Boundary cases of promises 44 to 50: asked, upper, lower, count, finding, findings, digest; and of all refusals. */
public final class BoundsToldTest {
    public static void main(String[] args) {
        askedBefore();
        askedByThese();
        askedNotByOthers();
        askedStaysWhenRefused();
        askedStaysWithNone();
        askedTellsNone();
        partsWithoutPeople();
        partsInLowestTerms();
        countBounds();
        countOfEach();
        findingBefore();
        findingIsTheLatest();
        findingNotByOthers();
        findingsBounds();
        digestWithoutAnything();
        digestOfAll();
        digestGoesRound();
        Check.end();
    }

    /** "0 before." */
    private static void askedBefore() {
        Bounds.leavesAll("asked() before", LampCave::new, LampCave::asked, 0);
        LampCave x = new LampCave();
        x.at(0, 0);
        x.mean(9);
        x.person(0, 0);
        Check.due("asked() behind refused ones", x.asked(), 0);
    }

    /** asked() tells 777, if nothing else is told. */
    private static LampCave asking() {
        LampCave x = Bounds.lived();
        Check.layRow(x, 0, 777, 888);
        x.at(0, 0);
        return x;
    }

    private static void asks(String call, Bounds.Call does, int answer, int told) {
        LampCave x = asking();
        Check.due(call, does.on(x), answer);
        Check.due(call + ", asked()", x.asked(), told);
        Check.due(call + ", asked() again", x.asked(), told);
    }

    /** "What the latest lay(), at(), mean(), person(), over(), .. told": each of these tells anew. */
    private static void askedByThese() {
        asks("lay(0, 1, 1)", x -> x.lay(0, 1, 1), 1, 888);
        asks("at(0, 1)", x -> x.at(0, 1), 1, 888);
        asks("mean(0)", x -> x.mean(0), 1, 832);
        asks("person(3, 4)", x -> x.person(3, 4), 1, 45);
        asks("over()", LampCave::over, 0, 0);
        asks("holds(0) when OVER", x -> x.fear(4, 45) >= 0 ? x.holds(0) : -1, 0, 16);
        asks("best() when OVER", x -> x.fear(4, 45) >= 0 ? x.best() : -1, 0, 0);
        asks("worst(0)", x -> x.fear(2, 44) >= 0 ? x.worst(0) : -1, 44, 2);
        asks("judge(1)", x -> x.judge(1), 0, Check.NONE);
        asks("liars(1)", x -> x.liars(1), 16, 0);
        asks("visit(9, 9) when OVER", x -> x.fear(4, 45) >= 0 ? x.visit(9, 9) : -1, 0, 45);
        LampCave swap = Check.in("wr10 p0209 p0009 c0009");
        swap.swap();
        Check.due("swap(), asked()", swap.asked(), 45);
        LampCave teller = Check.in("wr09 p3009");
        teller.teller();
        Check.due("teller(), asked()", teller.asked(), 4);
    }

    /** All other calls leave it, answered or not. */
    private static void askedNotByOthers() {
        Bounds.Call[] others = {x -> x.row(3, 3), x -> x.tear(3), x -> x.copy(0, 0, 0, 1, 1), x -> x.text(3, 3),
            x -> x.put(0, 0, 1), x -> x.fault(0), x -> x.cave(0), x -> x.mark(1, 1), x -> x.law(1), x -> x.oil(1),
            x -> x.fear(1, 1), x -> x.minutes(3), x -> x.hand(1), LampCave::next, x -> x.had(0), x -> x.undo(1), x -> x.story(1), x -> x.song(99), x -> x.keep(1),
            x -> x.on(0), LampCave::rest, x -> x.often(1, 9), x -> x.longest(1), x -> x.calmest(1, 1), x -> x.order(1),
            x -> x.spare(9), x -> x.grows(1, 2), x -> x.fears(1, 2), x -> x.tell(1, 9, 1), LampCave::upper, LampCave::lower,
            x -> x.count(1), LampCave::finding, x -> x.findings(1), LampCave::digest};
        for (int k = 0; k < others.length; k++) {
            LampCave x = asking();
            others[k].on(x);
            Check.due("asked() behind the " + k + "th of those that do not tell", x.asked(), 777);
        }
    }

    /** "That was not refused". */
    private static void askedStaysWhenRefused() {
        Bounds.Call[] refused = {x -> x.lay(0, 2, 1), x -> x.at(4, 0), x -> x.at(6, 0), x -> x.mean(1), x -> x.mean(-1),
            x -> x.person(5, 0), x -> x.person(0, 6), x -> x.holds(4), x -> x.worst(61), x -> x.judge(4), x -> x.judge(3),
            x -> x.judge(6), x -> x.liars(4), x -> x.liars(3), x -> x.liars(-1), x -> x.visit(0, 1), x -> x.visit(1, 0)};
        for (int k = 0; k < refused.length; k++) {
            LampCave x = asking();
            Check.that("the " + k + "th is refused", refused[k].on(x) < 0);
            Check.due("asked() behind the " + k + "th refused", x.asked(), 777);
        }
        Bounds.Call[] state = {x -> x.holds(0), LampCave::best, x -> x.worst(0), LampCave::swap, LampCave::teller,
            x -> x.judge(2), x -> x.liars(2), x -> x.visit(1, 1)};
        for (int k = 0; k < state.length; k++) {
            LampCave x = Bounds.empty();
            Check.due("the " + k + "th without PEOPLE", state[k].on(x), Check.STATE);
            Check.due("asked() behind the " + k + "th without PEOPLE", x.asked(), 33);
        }
        LampCave over = Bounds.livedOver();
        Check.due("teller() when OVER", over.teller(), Check.STATE);
        Check.due("asked() behind teller() when OVER", over.asked(), 33);
    }

    /** "(Nor NONE, but as told)". */
    private static void askedStaysWithNone() {
        LampCave x = Check.in("wr00 p0009");
        x.person(0, 4);
        Check.due("holds(0) NONE", x.holds(0), Check.NONE);
        Check.due("asked() behind it", x.asked(), 45);
        Check.due("swap() NONE", x.swap(), Check.NONE);
        Check.due("asked() behind it", x.asked(), 45);
    }

    /** NONE is what these tell: best(), swap() "how long by asked() (NONE)", judge(), liars(). */
    private static void askedTellsNone() {
        LampCave x = Check.in("wr10 p0109 p0109 c0009");
        x.row(0, 1);
        x.lay(0, 0, 1);
        Check.due("swap() tells NONE", x.swap() == 12 ? x.asked() : 0, Check.NONE);
        x.person(0, 4);
        Check.due("judge(0) tells NONE", x.judge(0) == 0 ? x.asked() : 0, Check.NONE);
        x.person(0, 4);
        Check.due("liars(0) tells NONE", x.liars(0) == 0 ? x.asked() : 0, Check.NONE);
        LampCave best = Check.in("wr00 p0009");
        best.person(0, 4);
        Check.due("best() tells NONE", best.best() == 0 ? best.asked() : 0, Check.NONE);
    }

    /** "(0 without PEOPLE)", "(1 without PEOPLE)". */
    private static void partsWithoutPeople() {
        Bounds.leavesAll("upper() at first", LampCave::new, LampCave::upper, 0);
        Bounds.leavesAll("lower() at first", LampCave::new, LampCave::lower, 1);
        Bounds.leavesAll("upper() without PEOPLE", Bounds::empty, LampCave::upper, 0);
        Bounds.leavesAll("lower() without PEOPLE", Bounds::empty, LampCave::lower, 1);
        LampCave x = Bounds.lived();
        Check.write(x, 3, "wr03");
        x.cave(3);
        Check.due("upper() without PEOPLE any more", x.upper(), 0);
        Check.due("lower() without PEOPLE any more", x.lower(), 1);
    }

    /** "FEARS of all together, as a part of all at which they SCREAM, in lowest terms". */
    private static void partsInLowestTerms() {
        parts("wr09 p0001", 0, 1, 0);
        parts("wr09 p0001", 1, 5, 1);
        parts("wr09 p0001", 1, 1, 5);
        parts("wr09 p0001", 6, 5, 6);
        parts("wr09 p0001", 2, 1, 10);
        parts("wr09 p0001", 99, 5, 99);
        parts("wr09 p0009", 44, 45, 44);
        parts("wr09 p0009", 3, 5, 27);
        parts("wr09 p0009", 11, 5, 99);
        parts("wr09 p0001 p0001 p0001 p0001 p0001", 99, 5, 99, 99, 99, 99, 99);
        parts("wr09 p0009 p0009 p0009 p0009 p0009", 11, 5, 99, 99, 99, 99, 99);
        parts("wr09 p0009 p0009 p0009 p0009 p0009", 1, 225, 0, 0, 0, 0, 1);
        parts("wr09 p0009 p0009 p0009 p0009 p0009", 224, 225, 45, 45, 45, 45, 44);
        parts("wr09 p0009 p0009 p0009 p0009 p0009", 0, 1, 0, 0, 0, 0, 0);
        parts("wr09 p0003 p0004", 2, 7, 4, 6);
    }

    private static void parts(String cave, long upper, long lower, int... fears) {
        LampCave x = Check.in(cave);
        for (int who = 0; who < fears.length; who++) {
            x.fear(who, fears[who]);
        }
        Check.due("upper() of '" + cave + "'", x.upper(), upper);
        Check.due("lower() of '" + cave + "'", x.lower(), lower);
    }

    /** count(): what 0 .. 7. "BAD." */
    private static void countBounds() {
        for (int what : Bounds.outside(0, 7)) {
            Bounds.refused("count(" + what + ")", Bounds::lived, x -> x.count(what), Check.BAD);
            Bounds.refused("count(" + what + ") at first", LampCave::new, x -> x.count(what), Check.BAD);
        }
        int[] due = {5, 7, 83, 3, 0, 2, 5, 3};
        for (int what = 0; what <= 7; what++) {
            int of = what;
            Bounds.leavesAll("count(" + what + ")", Bounds::lived, x -> x.count(of), due[what]);
            Bounds.leavesAll("count(" + what + ") at first", LampCave::new, x -> x.count(of), 0);
        }
    }

    /** Each of these from none to all. */
    private static void countOfEach() {
        LampCave x = Check.in("wr00 p0009 p0009 p0009 p0009 p0009");
        for (int who = 0; who < 5; who++) {
            Check.due("who SCREAM now", x.count(4), who);
            x.fear(who, 44);
            Check.due("who SCREAM at 44", x.count(4), who);
            x.fear(who, 45);
        }
        Check.due("all SCREAM now", x.count(4), 5);
        for (int calm = 0; calm <= 5; calm++) {
            char kind = "csg".charAt(calm % 3);
            LampCave y = Check.in("wr00" + (" " + kind + "0009").repeat(calm) + " l0009".repeat(5 - calm));
            Check.due("CALM ones", y.count(3), calm);
        }
        LampCave kept = Check.in("wr00 p0009");
        for (int k = 2; k >= 0; k--) {
            Check.due("kept CAVES", kept.count(5), 2 - k);
            kept.keep(k);
        }
        Check.due("kept CAVES, all", kept.count(5), 3);
        LampCave rows = new LampCave();
        for (int r = 5; r >= 0; r--) {
            Check.due("ROWS", rows.count(6), 5 - r);
            rows.row(r, r);
        }
        Check.due("ROWS, all", rows.count(6), 6);
        for (int t = 3; t >= 0; t--) {
            Check.due("TEXTS", rows.count(7), 3 - t);
            rows.text(t, t);
        }
        Check.due("TEXTS, all", rows.count(7), 4);
    }

    /** "0 before any". */
    private static void findingBefore() {
        Bounds.leavesAll("finding() before any", LampCave::new, LampCave::finding, 0);
        for (int f = 1; f <= 5; f++) {
            int of = f;
            Bounds.leavesAll("findings(" + f + ") before any", LampCave::new, x -> x.findings(of), 0);
        }
    }

    /** "The latest FINDING"; "how often a FINDING was answered". */
    private static void findingIsTheLatest() {
        Bounds.Call[] calls = {x -> x.tear(4), x -> x.had(7), x -> x.mark(0, 1), x -> x.mean(1), x -> x.text(0, -1)};
        LampCave x = Bounds.lived();
        for (int times = 2; times <= 4; times++) {
            for (int f = 1; f <= 5; f++) {
                Check.found("the call for FINDING " + f, x, calls[f - 1].on(x), f);
                Check.due("findings(" + f + ")", x.findings(f), times);
            }
        }
        x.row(0, 0);
        x.minutes(1);
        Check.due("finding() behind what is answered", x.finding(), Check.SIZE);
    }

    /** BAD, FULL, STATE and NONE are no FINDINGS. */
    private static void findingNotByOthers() {
        Bounds.refused("BAD", LampCave::new, x -> x.row(6, 0), Check.BAD);
        Bounds.refused("STATE", LampCave::new, LampCave::next, Check.STATE);
        Bounds.refused("FULL", Bounds::livedFull, x -> x.hand(0), Check.FULL);
        Bounds.leavesAll("NONE", Bounds::livedOver, LampCave::rest, Check.NONE);
    }

    /** findings(): "a FINDING (1 .. 5) .. BAD." */
    private static void findingsBounds() {
        for (int f : Bounds.outside(1, 5)) {
            Bounds.refused("findings(" + f + ")", Bounds::lived, x -> x.findings(f), Check.BAD);
        }
        for (int f = 1; f <= 5; f++) {
            int of = f;
            Bounds.leavesAll("findings(" + f + ")", Bounds::lived, x -> x.findings(of), 1);
        }
    }

    private static long digestOf(List<Long> values) {
        long h = 17;
        for (long v : values) {
            h = 31 * h + v;
        }
        return h;
    }

    private static void add(List<Long> values, long... more) {
        for (long v : more) {
            values.add(v);
        }
    }

    /** "-1: missing"; "0 without PEOPLE". */
    private static void digestWithoutAnything() {
        List<Long> due = new ArrayList<>();
        add(due, 0, 0, 0, 0, 0, 0, 0, 0, 0, 0);
        add(due, -1, -1, -1, -1, -1, -1, -1, -1, -1, -1, -1, -1, -1);
        Bounds.leavesAll("digest() at first", LampCave::new, LampCave::digest, digestOf(due));
        due.clear();
        add(due, 0, 0, 0, 0, 0, 0, 1, 1, 0, 0, -1, -1, -1, -1, -1, -1, -1, -1, 0, 0, -1, -1, -1);
        LampCave x = new LampCave();
        x.row(5, 0);
        x.text(0, 0);
        Check.due("digest() with an empty ROW and TEXT", x.digest(), digestOf(due));
    }

    /** What the object tells of itself by other calls; FORM, THE LAW and kept MINUTES are given. */
    private static List<Long> seen(LampCave x, int form, int law, int... kept) {
        List<Long> seen = new ArrayList<>();
        for (int what = 0; what <= 7; what++) {
            add(seen, x.count(what));
        }
        add(seen, form, law);
        for (int who = 0; who < x.count(0); who++) {
            for (int what = 0; what <= 5; what++) {
                x.person(who, what);
                add(seen, x.asked());
            }
        }
        for (int minute = 0; minute < x.count(1); minute++) {
            add(seen, x.had(minute));
        }
        for (int minute : kept) {
            add(seen, minute);
        }
        return seen;
    }

    /** Of each one person() 0 to 5, of each MINUTE who had it, of each kept CAVE, ROW and TEXT; "asked() stays". */
    private static void digestOfAll() {
        for (int form = 0; form <= 1; form++) {
            for (int law = 0; law <= 3; law++) {
                LampCave x = Check.in("w" + "ro".charAt(form) + law + "1 g9009 l9119 k0009");
                x.keep(1);
                x.hand(2);
                x.hand(1);
                x.keep(2);
                Check.layRow(x, 5, -1, Bounds.MAX, Bounds.MIN);
                x.text(0, 2);
                x.put(0, 1, -128);
                List<Long> due = seen(x, form, law, -1, 0, 2);
                add(due, -1, -1, -1, -1, -1, 3, -1, Bounds.MAX, Bounds.MIN, 2, 32, -128, -1, -1, -1);
                int asked = x.asked();
                Check.due("digest(), FORM " + form + ", LAW " + law, x.digest(), digestOf(due));
                Check.due("digest(), asked() stays", x.asked(), asked);
            }
        }
    }

    /** h is a long and goes round: all ROWS and TEXTS as large as can be, 120 MINUTES. */
    private static void digestGoesRound() {
        LampCave x = Check.in("wr19 p0009 p0009");
        x.minutes(60);
        x.minutes(60);
        x.keep(0);
        for (int r = 0; r <= 5; r++) {
            x.row(r, 60);
        }
        for (int t = 0; t <= 3; t++) {
            x.text(t, 80);
        }
        x.lay(0, 0, Bounds.MIN);
        x.lay(5, 59, Bounds.MAX);
        x.put(3, 79, 127);
        List<Long> due = seen(x, 0, 1, 120, -1, -1);
        for (int r = 0; r <= 5; r++) {
            add(due, 60);
            for (int i = 0; i < 60; i++) {
                add(due, r == 0 && i == 0 ? Bounds.MIN : r == 5 && i == 59 ? Bounds.MAX : 0);
            }
        }
        for (int t = 0; t <= 3; t++) {
            add(due, 80);
            for (int i = 0; i < 80; i++) {
                add(due, t == 3 && i == 79 ? 127 : 32);
            }
        }
        Check.due("digest() goes round", x.digest(), digestOf(due));
    }
}

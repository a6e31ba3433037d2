import java.util.LinkedHashMap;
import java.util.Map;
import java.util.function.Supplier;

/**
 * What goes on aside leaves nothing behind: each call that changes no CAVE is made ahead of each other call, which must
 * answer, tell and change what it does without it. And one object knows nothing of another.
 */
public final class AsideTest {
    public static void main(String[] args) {
        Map<String, Bounds.Call> aside = asideCalls();
        Map<String, Bounds.Call> all = new LinkedHashMap<>(aside);
        all.putAll(changingCalls());
        for (String first : aside.keySet()) {
            for (String second : all.keySet()) {
                behind(Bounds::lived, first, aside.get(first), second, all.get(second));
                behind(AsideTest::inTheDark, first, aside.get(first), second, all.get(second));
            }
        }
        twoObjects();
        upTo512Calls();
        Check.end();
    }

    /** Without OIL, and so that somebody SCREAMS soon. */
    private static LampCave inTheDark() {
        LampCave x = Bounds.lived();
        x.oil(0);
        x.fear(0, 40);
        return x;
    }

    private static Map<String, Bounds.Call> asideCalls() {
        Map<String, Bounds.Call> calls = new LinkedHashMap<>();
        for (int t = 0; t <= 2; t++) {
            int text = t;
            calls.put("fault(" + t + ")", x -> x.fault(text));
        }
        for (int law = 0; law <= 3; law++) {
            int by = law;
            calls.put("holds(" + law + ")", x -> x.holds(by));
            calls.put("tell(" + law + ", 9, 4)", x -> x.tell(by, 9, 4));
        }
        for (int n : new int[] {0, 1, 4}) {
            calls.put("calmest(" + n + ", 4)", x -> x.calmest(n, 4));
        }
        calls.put("mark(4, 1)", x -> x.mark(4, 1));
        calls.put("mark(4, 5)", x -> x.mark(4, 5));
        calls.put("next()", LampCave::next);
        calls.put("over()", LampCave::over);
        calls.put("best()", LampCave::best);
        calls.put("rest()", LampCave::rest);
        calls.put("worst(60)", x -> x.worst(60));
        calls.put("often(1, 60)", x -> x.often(1, 60));
        calls.put("longest(4)", x -> x.longest(4));
        calls.put("order(4)", x -> x.order(4));
        calls.put("swap()", LampCave::swap);
        calls.put("spare(30)", x -> x.spare(30));
        calls.put("teller()", LampCave::teller);
        calls.put("judge(2)", x -> x.judge(2));
        calls.put("liars(2)", x -> x.liars(2));
        calls.put("grows(1, 2)", x -> x.grows(1, 2));
        calls.put("fears(1, 2)", x -> x.fears(1, 2));
        calls.put("visit(9, 77)", x -> x.visit(9, 77));
        calls.put("person(2, 5)", x -> x.person(2, 5));
        calls.put("digest()", LampCave::digest);
        return calls;
    }

    private static Map<String, Bounds.Call> changingCalls() {
        Map<String, Bounds.Call> calls = new LinkedHashMap<>();
        calls.put("minutes(5)", x -> x.minutes(5));
        calls.put("hand(1)", x -> x.hand(1));
        calls.put("story(2)", x -> x.story(2));
        calls.put("song(99)", x -> x.song(99));
        calls.put("undo(3)", x -> x.undo(3));
        calls.put("keep(1)", x -> x.keep(1));
        calls.put("on(0)", x -> x.on(0));
        calls.put("cave(0)", x -> x.cave(0));
        return calls;
    }

    private static void behind(Supplier<LampCave> made, String first, Bounds.Call aside, String second, Bounds.Call call) {
        LampCave x = made.get();
        LampCave y = made.get();
        aside.on(x);
        for (LampCave each : new LampCave[] {x, y}) {
            // ROW 4 is the one that comes anew, and what is told by asked() is alike again.
            each.row(4, 0);
            each.at(0, 2);
        }
        String both = first + ", then " + second;
        Check.due(both, call.on(x), call.on(y));
        Check.due(both + ", asked()", x.asked(), y.asked());
        Check.due(both + ", digest()", x.digest(), y.digest());
        Check.due(both + ", minutes(9)", x.minutes(9), y.minutes(9));
        Check.due(both + ", minutes(9), digest()", x.digest(), y.digest());
    }

    private static void twoObjects() {
        LampCave x = Bounds.lived();
        LampCave y = new LampCave();
        long was = x.digest();
        int told = x.asked();
        Check.due("another object is new", y.count(0) + y.count(6) + y.count(7) + y.asked() + y.finding(), 0);
        Check.write(y, 0, "wo00 p4001 k9009");
        y.cave(0);
        y.minutes(3);
        y.row(0, 1);
        y.at(0, 7);
        y.at(0, 0);
        y.keep(0);
        y.longest(1);
        Check.due("the first one is as it was", x.digest(), was);
        Check.due("and told what it told", x.asked(), told);
        Check.due("and found what it found", x.finding(), Check.NOUGHT);
        Check.due("findings(2) of the first one", x.findings(2), 1);
    }

    /** "An object is used for at most 512 calls": the 512th is answered as the first. */
    private static void upTo512Calls() {
        LampCave x = new LampCave();
        for (int call = 1; call <= 510; call++) {
            Check.due("call " + call, x.tear(5), Check.FINDING);
        }
        Check.due("call 511", x.findings(1), 510);
        Check.due("call 512", x.finding(), Check.NOTHING);
    }
}

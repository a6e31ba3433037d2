/** What every test uses: answers compared with those that are due, and CAVES made from texts. */
final class Check {
    static final int BAD = -1, FULL = -2, FINDING = -3, STATE = -4, NONE = -9;
    static final int NOTHING = 1, BEYOND = 2, UNLIKE = 3, NOUGHT = 4, SIZE = 5;
    private static int wrong = 0;

    private Check() {
    }

    static void due(String call, long got, long want) {
        if (got != want) {
            wrong++;
            System.out.println(call + " answered " + got + ", due is " + want);
        }
    }

    static void that(String what, boolean holds) {
        due(what, holds ? 1 : 0, 1);
    }

    /** The call answered FINDING, and finding() tells which. */
    static void found(String call, LampCave x, long got, int finding) {
        due(call, got, FINDING);
        due(call + ": finding()", x.finding(), finding);
    }

    /** The call answered 1, and asked() tells what it told. */
    static void told(String call, LampCave x, long got, long want) {
        due(call, got, 1);
        due(call + ": asked()", x.asked(), want);
    }

    static void write(LampCave x, int t, String signs) {
        x.text(t, signs.length());
        for (int i = 0; i < signs.length(); i++) {
            x.put(t, i, signs.charAt(i));
        }
    }

    /** A new object with a CAVE by TEXT 0. */
    static LampCave in(String signs) {
        LampCave x = new LampCave();
        write(x, 0, signs);
        int people = x.cave(0);
        that("cave of '" + signs + "'", people >= 0);
        return x;
    }

    static void layRow(LampCave x, int r, int... values) {
        x.row(r, values.length);
        for (int i = 0; i < values.length; i++) {
            x.lay(r, i, values[i]);
        }
    }

    static void rowIs(String call, LampCave x, int r, int... values) {
        for (int i = 0; i < values.length; i++) {
            told(call + ": at(" + r + ", " + i + ")", x, x.at(r, i), values[i]);
        }
        due(call + ": at(" + r + ", " + values.length + ")", x.at(r, values.length), FINDING);
    }

    static void fearsAre(String call, LampCave x, int... values) {
        for (int i = 0; i < values.length; i++) {
            told(call + ": person(" + i + ", 1)", x, x.person(i, 1), values[i]);
        }
        due(call + ": count(0)", x.count(0), values.length);
    }

    static void end() {
        System.out.println(wrong == 0 ? "all answers are as due" : wrong + " answers are not as due");
        if (wrong != 0) {
            System.exit(1);
        }
    }
}

/** Boundary cases of promises 1 to 9: a new object, ROWS, the bytes of TEXTS. Each method has its sentence above it. */
public final class BoundsRowsTest {
    public static void main(String[] args) {
        atFirst();
        rowNumbers();
        rowSizes();
        rowAnew();
        rowRefused();
        layPlaces();
        layRefused();
        atRefused();
        layTells();
        tornIsMissing();
        tearRefused();
        copySizes();
        copyInItself();
        copyNone();
        copyRefused();
        meanSizes();
        meanCut();
        meanRefused();
        textNumbers();
        textSizes();
        textRefused();
        putPlaces();
        putCut();
        putRefused();
        Check.end();
    }

    /** "No ROWS, TEXTS, PEOPLE." "ROWS 0 .. 5 .., TEXTS 0 .. 3 .., or missing (at first)." */
    private static void atFirst() {
        for (int r = 0; r <= 5; r++) {
            int row = r;
            Bounds.finds("at first tear(" + r + ")", LampCave::new, x -> x.tear(row), Check.NOTHING);
        }
        for (int t = 0; t <= 3; t++) {
            int text = t;
            Bounds.finds("at first fault(" + t + ")", LampCave::new, x -> x.fault(text), Check.NOTHING);
        }
        for (int k = 0; k <= 2; k++) {
            int place = k;
            Bounds.finds("at first on(" + k + ")", LampCave::new, x -> x.on(place), Check.NOTHING);
        }
        Bounds.refused("at first person(0, 0)", LampCave::new, x -> x.person(0, 0), Check.BAD);
        LampCave x = new LampCave();
        for (int what = 0; what <= 7; what++) {
            Check.due("at first count(" + what + ")", x.count(what), 0);
        }
    }

    /** "ROWS 0 .. 5". */
    private static void rowNumbers() {
        LampCave x = new LampCave();
        for (int r = 0; r <= 5; r++) {
            Check.due("row(" + r + ", 1)", x.row(r, 1), 1);
            Check.due("behind it count(6)", x.count(6), r + 1);
        }
        for (int r : Bounds.outside(0, 5)) {
            Bounds.refused("row(" + r + ", 1)", Bounds::lived, y -> y.row(r, 1), Check.BAD);
        }
    }

    /** "Rows of 0 to 60 ints." "BAD: also n above 60; SIZE: below 0." */
    private static void rowSizes() {
        for (int n : new int[] {0, 1, 59, 60}) {
            LampCave x = new LampCave();
            Check.due("row(5, " + n + ")", x.row(5, n), n);
            Check.due("row(5, " + n + "), count(6)", x.count(6), 1);
            if (n > 0) {
                Check.told("row(5, " + n + "), its last place", x, x.at(5, n - 1), 0);
            }
            Check.found("row(5, " + n + "), behind its last place", x, x.at(5, n), Check.BEYOND);
        }
    }

    /** "A ROW is there with n ints 0." */
    private static void rowAnew() {
        LampCave x = new LampCave();
        x.row(0, 60);
        for (int i = 0; i < 60; i++) {
            x.lay(0, i, i + 1);
        }
        x.row(0, 2);
        Check.rowIs("a smaller ROW anew", x, 0, 0, 0);
        x.row(0, 60);
        for (int i = 0; i < 60; i++) {
            Check.told("a larger ROW anew, place " + i, x, x.at(0, i), 0);
        }
        Check.due("there are no more ROWS by it", x.count(6), 1);
    }

    private static void rowRefused() {
        for (int n : new int[] {61, 62, Bounds.MAX}) {
            Bounds.refused("row(0, " + n + ")", Bounds::lived, x -> x.row(0, n), Check.BAD);
            Bounds.refused("row(4, " + n + "), of one missing", Bounds::lived, x -> x.row(4, n), Check.BAD);
        }
        for (int n : new int[] {-1, Bounds.MIN}) {
            Bounds.finds("row(0, " + n + ")", Bounds::lived, x -> x.row(0, n), Check.SIZE);
            Bounds.finds("row(4, " + n + "), of one missing", Bounds::lived, x -> x.row(4, n), Check.SIZE);
            Bounds.refused("row(6, " + n + "): BAD first", Bounds::lived, x -> x.row(6, n), Check.BAD);
            Bounds.refused("row(-1, " + n + "): BAD first", Bounds::lived, x -> x.row(-1, n), Check.BAD);
        }
    }

    /** "Place i of a ROW is v." */
    private static void layPlaces() {
        LampCave x = new LampCave();
        x.row(3, 60);
        Check.told("lay at the first place", x, x.lay(3, 0, 5), 0);
        Check.told("lay at the last place", x, x.lay(3, 59, 6), 0);
        Check.told("the first place", x, x.at(3, 0), 5);
        Check.told("the second place", x, x.at(3, 1), 0);
        Check.told("the last place but one", x, x.at(3, 58), 0);
        Check.told("the last place", x, x.at(3, 59), 6);
        x.row(2, 1);
        Check.told("lay in a ROW of one", x, x.lay(2, 0, 7), 0);
        Check.told("at of a ROW of one", x, x.at(2, 0), 7);
        Check.told("another ROW's place", x, x.at(3, 0), 5);
    }

    /** lay(): "BAD; NOTHING; BEYOND." */
    private static void layRefused() {
        for (int r : Bounds.outside(0, 5)) {
            Bounds.refused("lay(" + r + ", 0, 1)", Bounds::lived, x -> x.lay(r, 0, 1), Check.BAD);
            Bounds.refused("lay(" + r + ", -1, 1): BAD first", Bounds::lived, x -> x.lay(r, -1, 1), Check.BAD);
        }
        Bounds.finds("lay(4, 0, 1)", Bounds::lived, x -> x.lay(4, 0, 1), Check.NOTHING);
        Bounds.finds("lay(4, -1, 1): NOTHING first", Bounds::lived, x -> x.lay(4, -1, 1), Check.NOTHING);
        Bounds.finds("lay(4, 60, 1): NOTHING first", Bounds::lived, x -> x.lay(4, 60, 1), Check.NOTHING);
        for (int i : Bounds.outside(0, 4)) {
            Bounds.finds("lay(0, " + i + ", 1) of 5", Bounds::lived, x -> x.lay(0, i, 1), Check.BEYOND);
        }
        Bounds.finds("lay(1, 0, 1) of none", Bounds::lived, x -> x.lay(1, 0, 1), Check.BEYOND);
        Bounds.finds("lay(5, 60, 1) of 60", Bounds::lived, x -> x.lay(5, 60, 1), Check.BEYOND);
    }

    /** at(): "BAD; NOTHING; BEYOND." */
    private static void atRefused() {
        for (int r : Bounds.outside(0, 5)) {
            Bounds.refused("at(" + r + ", 0)", Bounds::lived, x -> x.at(r, 0), Check.BAD);
            Bounds.refused("at(" + r + ", -1): BAD first", Bounds::lived, x -> x.at(r, -1), Check.BAD);
        }
        Bounds.finds("at(4, 0)", Bounds::lived, x -> x.at(4, 0), Check.NOTHING);
        Bounds.finds("at(4, -1): NOTHING first", Bounds::lived, x -> x.at(4, -1), Check.NOTHING);
        for (int i : Bounds.outside(0, 4)) {
            Bounds.finds("at(0, " + i + ") of 5", Bounds::lived, x -> x.at(0, i), Check.BEYOND);
        }
        Bounds.finds("at(1, 0) of none", Bounds::lived, x -> x.at(1, 0), Check.BEYOND);
        Bounds.finds("at(5, 60) of 60", Bounds::lived, x -> x.at(5, 60), Check.BEYOND);
    }

    /** "What it was, told by asked(): 1." */
    private static void layTells() {
        LampCave x = new LampCave();
        x.row(0, 2);
        int was = 0;
        for (int v : new int[] {Bounds.MAX, Bounds.MIN, -1, -9, 0, 1}) {
            Check.told("lay(0, 1, " + v + ")", x, x.lay(0, 1, v), was);
            Check.told("at(0, 1)", x, x.at(0, 1), v);
            was = v;
        }
        Check.told("the place ahead", x, x.at(0, 0), 0);
    }

    /** "A ROW is missing: 1." */
    private static void tornIsMissing() {
        LampCave x = Bounds.lived();
        Check.due("tear(0)", x.tear(0), 1);
        Check.due("tear(0), count(6)", x.count(6), 4);
        Check.found("tear(0), at(0, 0)", x, x.at(0, 0), Check.NOTHING);
        Check.due("tear(1) of a ROW of none", x.tear(1), 1);
        Check.due("tear(5) of the last, which is full", x.tear(5), 1);
        Check.due("count(6)", x.count(6), 2);
        Check.rowIs("others stay", x, 2, 0, 1, 2, 0);
        LampCave never = new LampCave();
        LampCave torn = new LampCave();
        torn.row(3, 2);
        torn.tear(3);
        Check.due("torn, digest() as if it never was", torn.digest(), never.digest());
        x.row(0, 5);
        Check.rowIs("torn and there anew", x, 0, 0, 0, 0, 0, 0);
    }

    private static void tearRefused() {
        for (int r : Bounds.outside(0, 5)) {
            Bounds.refused("tear(" + r + ")", Bounds::lived, x -> x.tear(r), Check.BAD);
        }
        Bounds.finds("tear(4)", Bounds::lived, x -> x.tear(4), Check.NOTHING);
        LampCave x = Bounds.lived();
        x.tear(0);
        Check.found("tear(0) again", x, x.tear(0), Check.NOTHING);
    }

    private static LampCave twoRows() {
        LampCave x = Bounds.lived();
        Check.layRow(x, 0, 1, 2, 3, 4, 5);
        Check.layRow(x, 2, 6, 7, 8);
        return x;
    }

    /** "n places of a ROW, from one on, come to those of another one (perhaps itself) from one on." */
    private static void copySizes() {
        LampCave x = twoRows();
        Check.due("copy to the last places", x.copy(0, 0, 2, 1, 2), 1);
        Check.rowIs("copy to the last places", x, 2, 6, 1, 2);
        Check.due("copy of the last places", x.copy(0, 3, 2, 0, 2), 1);
        Check.rowIs("copy of the last places", x, 2, 4, 5, 2);
        Check.due("copy of one", x.copy(0, 4, 2, 2, 1), 1);
        Check.rowIs("copy of one", x, 2, 4, 5, 5);
        Check.due("copy of all", x.copy(2, 0, 0, 2, 3), 1);
        Check.rowIs("copy of all", x, 0, 1, 2, 4, 5, 5);
        x.row(3, 60);
        x.lay(5, 0, 44);
        Check.due("copy of 60", x.copy(5, 0, 3, 0, 60), 1);
        Check.told("copy of 60, the first", x, x.at(3, 0), 44);
        Check.told("copy of 60, the last", x, x.at(3, 59), 60);
        x.at(0, 0);
        x.copy(0, 0, 2, 0, 1);
        Check.due("copy() tells nothing by asked()", x.asked(), 1);
    }

    /** "As if taken ahead." */
    private static void copyInItself() {
        LampCave x = twoRows();
        Check.due("copy upwards", x.copy(0, 0, 0, 1, 4), 1);
        Check.rowIs("copy upwards", x, 0, 1, 1, 2, 3, 4);
        Check.due("copy downwards", x.copy(0, 1, 0, 0, 4), 1);
        Check.rowIs("copy downwards", x, 0, 1, 2, 3, 4, 4);
        Check.due("copy where it is", x.copy(0, 0, 0, 0, 5), 1);
        Check.rowIs("copy where it is", x, 0, 1, 2, 3, 4, 4);
    }

    /** "BEYOND: not so many there (with n 0, too, if i or j is below 0 or above the size)." */
    private static void copyNone() {
        LampCave x = twoRows();
        long was = x.digest();
        Check.due("n 0 at the beginnings", x.copy(0, 0, 2, 0, 0), 1);
        Check.due("n 0 at the sizes", x.copy(0, 5, 2, 3, 0), 1);
        Check.due("n 0 of none to none", x.copy(1, 0, 1, 0, 0), 1);
        Check.due("n 0 changes nothing", x.digest(), was);
        Bounds.finds("n 0, i -1", BoundsRowsTest::twoRows, y -> y.copy(0, -1, 2, 0, 0), Check.BEYOND);
        Bounds.finds("n 0, i 6 of 5", BoundsRowsTest::twoRows, y -> y.copy(0, 6, 2, 0, 0), Check.BEYOND);
        Bounds.finds("n 0, j -1", BoundsRowsTest::twoRows, y -> y.copy(0, 0, 2, -1, 0), Check.BEYOND);
        Bounds.finds("n 0, j 4 of 3", BoundsRowsTest::twoRows, y -> y.copy(0, 0, 2, 4, 0), Check.BEYOND);
        Bounds.finds("n 0, i MIN", BoundsRowsTest::twoRows, y -> y.copy(0, Bounds.MIN, 2, 0, 0), Check.BEYOND);
        Bounds.finds("n 0, j MAX", BoundsRowsTest::twoRows, y -> y.copy(0, 0, 2, Bounds.MAX, 0), Check.BEYOND);
        Bounds.finds("n 0, i 1 of none", BoundsRowsTest::twoRows, y -> y.copy(1, 1, 2, 0, 0), Check.BEYOND);
        Bounds.finds("n 0, j 1 of none", BoundsRowsTest::twoRows, y -> y.copy(0, 0, 1, 1, 0), Check.BEYOND);
    }

    /** "BAD; SIZE: n below 0; NOTHING: either; BEYOND: not so many there. (In this order.)" */
    private static void copyRefused() {
        for (int r : Bounds.outside(0, 5)) {
            Bounds.refused("copy from " + r, Bounds::lived, x -> x.copy(r, 0, 0, 0, 1), Check.BAD);
            Bounds.refused("copy to " + r, Bounds::lived, x -> x.copy(0, 0, r, 0, 1), Check.BAD);
            Bounds.refused("copy to " + r + ": BAD ahead of SIZE", Bounds::lived, x -> x.copy(0, 0, r, 0, -1), Check.BAD);
            Bounds.refused("copy to " + r + ": BAD ahead of NOTHING", Bounds::lived, x -> x.copy(4, 9, r, 0, 1), Check.BAD);
        }
        Bounds.finds("copy n -1", Bounds::lived, x -> x.copy(0, 0, 2, 0, -1), Check.SIZE);
        Bounds.finds("copy n MIN", Bounds::lived, x -> x.copy(0, 0, 2, 0, Bounds.MIN), Check.SIZE);
        Bounds.finds("SIZE ahead of NOTHING", Bounds::lived, x -> x.copy(4, 0, 4, 0, -1), Check.SIZE);
        Bounds.finds("SIZE ahead of BEYOND", Bounds::lived, x -> x.copy(0, -1, 2, 99, -1), Check.SIZE);
        Bounds.finds("NOTHING from", Bounds::lived, x -> x.copy(4, 0, 0, 0, 1), Check.NOTHING);
        Bounds.finds("NOTHING to", Bounds::lived, x -> x.copy(0, 0, 4, 0, 1), Check.NOTHING);
        Bounds.finds("NOTHING from, none copied", Bounds::lived, x -> x.copy(4, 0, 0, 0, 0), Check.NOTHING);
        Bounds.finds("NOTHING to, none copied", Bounds::lived, x -> x.copy(0, 0, 4, 0, 0), Check.NOTHING);
        Bounds.finds("NOTHING ahead of BEYOND, from", Bounds::lived, x -> x.copy(4, -1, 0, 0, 1), Check.NOTHING);
        Bounds.finds("NOTHING ahead of BEYOND, to", Bounds::lived, x -> x.copy(0, 6, 4, 0, 1), Check.NOTHING);
        Bounds.finds("one too many from", BoundsRowsTest::twoRows, x -> x.copy(0, 3, 2, 0, 3), Check.BEYOND);
        Bounds.finds("one too many to", BoundsRowsTest::twoRows, x -> x.copy(0, 0, 2, 1, 3), Check.BEYOND);
        Bounds.finds("one from its size on", BoundsRowsTest::twoRows, x -> x.copy(0, 5, 2, 0, 1), Check.BEYOND);
        Bounds.finds("one to its size", BoundsRowsTest::twoRows, x -> x.copy(0, 0, 2, 3, 1), Check.BEYOND);
        Bounds.finds("from -1 on", BoundsRowsTest::twoRows, x -> x.copy(0, -1, 2, 0, 2), Check.BEYOND);
        Bounds.finds("to -1 on", BoundsRowsTest::twoRows, x -> x.copy(0, 0, 2, -1, 2), Check.BEYOND);
        Bounds.finds("one of none", BoundsRowsTest::twoRows, x -> x.copy(1, 0, 0, 0, 1), Check.BEYOND);
        Bounds.finds("one to none", BoundsRowsTest::twoRows, x -> x.copy(0, 0, 1, 0, 1), Check.BEYOND);
        Bounds.finds("61 of 60", BoundsRowsTest::twoRows, x -> x.copy(5, 0, 5, 0, 61), Check.BEYOND);
        Bounds.finds("60 of 60 from 1 on", BoundsRowsTest::twoRows, x -> x.copy(5, 1, 5, 0, 60), Check.BEYOND);
        Bounds.finds("MAX of 5 from 1 on", BoundsRowsTest::twoRows, x -> x.copy(0, 1, 0, 1, Bounds.MAX), Check.BEYOND);
        Bounds.finds("MAX from MAX on", BoundsRowsTest::twoRows, x -> x.copy(0, Bounds.MAX, 0, 0, Bounds.MAX), Check.BEYOND);
        Bounds.finds("2 from MIN on", BoundsRowsTest::twoRows, x -> x.copy(0, Bounds.MIN, 0, 0, 2), Check.BEYOND);
        Bounds.finds("MAX to MIN on", BoundsRowsTest::twoRows, x -> x.copy(0, 0, 0, Bounds.MIN, Bounds.MAX), Check.BEYOND);
        Bounds.finds("in itself, one too many", BoundsRowsTest::twoRows, x -> x.copy(0, 0, 0, 1, 5), Check.BEYOND);
    }

    /** "The mean of a ROW's ints": of one, of 60, of the greatest and the least there are. */
    private static void meanSizes() {
        for (int v : new int[] {0, 7, -7, Bounds.MAX, Bounds.MIN}) {
            for (int n : new int[] {1, 2, 60}) {
                LampCave x = new LampCave();
                x.row(0, n);
                for (int i = 0; i < n; i++) {
                    x.lay(0, i, v);
                }
                Check.told("mean of " + v + ", " + n + " times", x, x.mean(0), v);
            }
        }
        LampCave x = new LampCave();
        Check.layRow(x, 0, 5, 5, 8);
        x.row(0, 2);
        x.lay(0, 0, 3);
        Check.told("mean of what is there alone", x, x.mean(0), 1);
    }

    /** "Cut". */
    private static void meanCut() {
        int[][] rows = {{1, 0}, {-1, 0}, {0, 0, 2}, {0, 0, 3}, {0, 0, -2}, {0, 0, -3}, {0, 0, -4}, {5, 6}, {-5, -6},
            {Bounds.MAX, Bounds.MIN}, {Bounds.MAX, Bounds.MAX, Bounds.MAX - 1}, {Bounds.MIN, Bounds.MIN, Bounds.MIN + 1}};
        int[] due = {0, 0, 0, 1, 0, -1, -1, 5, -5, 0, Bounds.MAX - 1, Bounds.MIN + 1};
        for (int k = 0; k < rows.length; k++) {
            LampCave x = new LampCave();
            Check.layRow(x, 4, rows[k]);
            Check.told("mean of the " + k + "th of these", x, x.mean(4), due[k]);
        }
    }

    /** "BAD; NOTHING; NOUGHT." */
    private static void meanRefused() {
        for (int r : Bounds.outside(0, 5)) {
            Bounds.refused("mean(" + r + ")", Bounds::lived, x -> x.mean(r), Check.BAD);
        }
        Bounds.finds("mean(4)", Bounds::lived, x -> x.mean(4), Check.NOTHING);
        Bounds.finds("mean(1) of none", Bounds::lived, x -> x.mean(1), Check.NOUGHT);
    }

    /** "TEXTS 0 .. 3". */
    private static void textNumbers() {
        LampCave x = new LampCave();
        for (int t = 0; t <= 3; t++) {
            Check.due("text(" + t + ", 1)", x.text(t, 1), 1);
            Check.due("behind it count(7)", x.count(7), t + 1);
        }
        for (int t : Bounds.outside(0, 3)) {
            Bounds.refused("text(" + t + ", 1)", Bounds::lived, y -> y.text(t, 1), Check.BAD);
        }
    }

    /** "Rows of 0 to 80 bytes." "A TEXT is there with n blanks." */
    private static void textSizes() {
        for (int n : new int[] {0, 1, 79, 80}) {
            LampCave x = new LampCave();
            Check.due("text(3, " + n + ")", x.text(3, n), n);
            Check.due("text(3, " + n + "), count(7)", x.count(7), 1);
            for (int i = 0; i < n; i++) {
                Check.due("text(3, " + n + "), put(3, " + i + ", 7)", x.put(3, i, 7), 1032);
            }
            Check.found("text(3, " + n + "), behind its last byte", x, x.put(3, n, 7), Check.BEYOND);
            x.text(3, 80);
            for (int i = 0; i < 80; i++) {
                Check.due("text(3, 80) anew, put(3, " + i + ", 7)", x.put(3, i, 7), 1032);
            }
        }
    }

    /** "BAD: also n above 80; SIZE: below 0." */
    private static void textRefused() {
        for (int n : new int[] {81, 82, Bounds.MAX}) {
            Bounds.refused("text(0, " + n + ")", Bounds::lived, x -> x.text(0, n), Check.BAD);
            Bounds.refused("text(3, " + n + "), of one missing", Bounds::lived, x -> x.text(3, n), Check.BAD);
        }
        for (int n : new int[] {-1, Bounds.MIN}) {
            Bounds.finds("text(0, " + n + ")", Bounds::lived, x -> x.text(0, n), Check.SIZE);
            Bounds.finds("text(3, " + n + "), of one missing", Bounds::lived, x -> x.text(3, n), Check.SIZE);
            Bounds.refused("text(4, " + n + "): BAD first", Bounds::lived, x -> x.text(4, n), Check.BAD);
            Bounds.refused("text(-1, " + n + "): BAD first", Bounds::lived, x -> x.text(-1, n), Check.BAD);
        }
    }

    /** "Byte i of a TEXT is v". */
    private static void putPlaces() {
        LampCave x = new LampCave();
        x.text(3, 80);
        Check.due("put at the first place", x.put(3, 0, 5), 1032);
        Check.due("put at the last place", x.put(3, 79, 6), 1032);
        Check.due("the first place", x.put(3, 0, 1), 1005);
        Check.due("the second place", x.put(3, 1, 1), 1032);
        Check.due("the last place but one", x.put(3, 78, 1), 1032);
        Check.due("the last place", x.put(3, 79, 1), 1006);
        Check.due("put() tells nothing by asked()", x.asked(), 0);
    }

    /** "Cut to a byte (-128 .. 127): what it was, and 1000 more." */
    private static void putCut() {
        int[] put = {127, 128, 129, 255, 256, 257, -1, -128, -129, -256, Bounds.MAX, Bounds.MIN, 0};
        int[] due = {127, -128, -127, -1, 0, 1, -1, -128, 127, 0, -1, 0, 0};
        LampCave x = new LampCave();
        x.text(0, 1);
        for (int k = 0; k < put.length; k++) {
            x.put(0, 0, put[k]);
            Check.due("what put(0, 0, " + put[k] + ") put", x.put(0, 0, 32), 1000 + due[k]);
        }
    }

    /** "BAD; NOTHING; BEYOND." */
    private static void putRefused() {
        for (int t : Bounds.outside(0, 3)) {
            Bounds.refused("put(" + t + ", 0, 1)", Bounds::lived, x -> x.put(t, 0, 1), Check.BAD);
            Bounds.refused("put(" + t + ", -1, 1): BAD first", Bounds::lived, x -> x.put(t, -1, 1), Check.BAD);
        }
        Bounds.finds("put(3, 0, 1)", Bounds::lived, x -> x.put(3, 0, 1), Check.NOTHING);
        Bounds.finds("put(3, -1, 1): NOTHING first", Bounds::lived, x -> x.put(3, -1, 1), Check.NOTHING);
        for (int i : new int[] {-1, 10, 80, Bounds.MIN, Bounds.MAX}) {
            Bounds.finds("put(2, " + i + ", 1) of 10", Bounds::lived, x -> x.put(2, i, 1), Check.BEYOND);
        }
        Bounds.finds("put(1, 0, 1) of none", Bounds::lived, x -> x.put(1, 0, 1), Check.BEYOND);
    }
}

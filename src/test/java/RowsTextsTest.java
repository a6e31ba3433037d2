/** Promises 1 to 10: a new object, ROWS, TEXTS, FAULTS. */
public final class RowsTextsTest {
    public static void main(String[] args) {
        newObject();
        rows();
        places();
        tearing();
        copying();
        means();
        texts();
        faults();
        Check.end();
    }

    private static void newObject() {
        LampCave x = new LampCave();
        for (int what = 0; what <= 7; what++) {
            Check.due("new: count(" + what + ")", x.count(what), 0);
        }
        Check.due("new: asked()", x.asked(), 0);
        Check.due("new: finding()", x.finding(), 0);
        for (int f = 1; f <= 5; f++) {
            Check.due("new: findings(" + f + ")", x.findings(f), 0);
        }
        Check.due("new: upper()", x.upper(), 0);
        Check.due("new: lower()", x.lower(), 1);
        Check.due("new: over()", x.over(), 0);
        Check.due("new: undo(0)", x.undo(0), 0);
        Check.due("new: undo(1)", x.undo(1), Check.BAD);
        Check.found("new: had(0)", x, x.had(0), Check.BEYOND);
        Check.found("new: on(0)", x, x.on(0), Check.NOTHING);
        long h = 17;
        for (int k = 0; k < 10; k++) {
            h = 31 * h;
        }
        for (int k = 0; k < 3 + 6 + 4; k++) {
            h = 31 * h - 1;
        }
        Check.due("new: digest()", x.digest(), h);
    }

    private static void rows() {
        LampCave x = new LampCave();
        Check.due("row(-1, 0)", x.row(-1, 0), Check.BAD);
        Check.due("row(6, 0)", x.row(6, 0), Check.BAD);
        Check.due("row(0, 61)", x.row(0, 61), Check.BAD);
        Check.due("row(6, -1): BAD ahead of SIZE", x.row(6, -1), Check.BAD);
        Check.due("refused by BAD: finding()", x.finding(), 0);
        Check.found("row(0, -1)", x, x.row(0, -1), Check.SIZE);
        Check.due("refused rows: count(6)", x.count(6), 0);
        Check.due("row(0, 0)", x.row(0, 0), 0);
        Check.due("row(5, 60)", x.row(5, 60), 60);
        Check.due("count(6)", x.count(6), 2);
        Check.told("at(5, 59)", x, x.at(5, 59), 0);
        x.lay(5, 59, 7);
        Check.due("row(5, 60) again", x.row(5, 60), 60);
        Check.told("at(5, 59) anew", x, x.at(5, 59), 0);
        x.lay(5, 3, 7);
        Check.found("row(5, -5)", x, x.row(5, -5), Check.SIZE);
        Check.told("at(5, 3) stays", x, x.at(5, 3), 7);
        Check.due("findings(5)", x.findings(5), 2);
    }

    private static void places() {
        LampCave x = new LampCave();
        Check.due("lay(-1, 0, 1)", x.lay(-1, 0, 1), Check.BAD);
        Check.due("at(6, 0)", x.at(6, 0), Check.BAD);
        Check.found("lay(0, 0, 1)", x, x.lay(0, 0, 1), Check.NOTHING);
        Check.found("at(0, -1)", x, x.at(0, -1), Check.NOTHING);
        x.row(0, 3);
        Check.told("lay(0, 2, MAX)", x, x.lay(0, 2, Integer.MAX_VALUE), 0);
        Check.told("lay(0, 2, MIN)", x, x.lay(0, 2, Integer.MIN_VALUE), Integer.MAX_VALUE);
        Check.told("at(0, 2)", x, x.at(0, 2), Integer.MIN_VALUE);
        Check.found("lay(0, 3, 1)", x, x.lay(0, 3, 1), Check.BEYOND);
        Check.found("lay(0, -1, 1)", x, x.lay(0, -1, 1), Check.BEYOND);
        Check.found("at(0, 3)", x, x.at(0, 3), Check.BEYOND);
        Check.found("at(0, MIN)", x, x.at(0, Integer.MIN_VALUE), Check.BEYOND);
        Check.due("asked() stays when refused", x.asked(), Integer.MIN_VALUE);
        Check.due("findings(1)", x.findings(1), 2);
        Check.due("findings(2)", x.findings(2), 4);
    }

    private static void tearing() {
        LampCave x = new LampCave();
        Check.due("tear(-1)", x.tear(-1), Check.BAD);
        Check.due("tear(6)", x.tear(6), Check.BAD);
        Check.found("tear(1)", x, x.tear(1), Check.NOTHING);
        x.row(1, 2);
        Check.due("tear(1) of a row", x.tear(1), 1);
        Check.due("count(6)", x.count(6), 0);
        Check.found("tear(1) again", x, x.tear(1), Check.NOTHING);
    }

    private static void copying() {
        LampCave x = new LampCave();
        Check.due("copy(-1, ..)", x.copy(-1, 0, 0, 0, -1), Check.BAD);
        Check.due("copy(.., 6, ..)", x.copy(0, 0, 6, 0, -1), Check.BAD);
        Check.found("copy: SIZE ahead of NOTHING", x, x.copy(0, 0, 1, 0, -1), Check.SIZE);
        Check.found("copy: NOTHING from", x, x.copy(0, 9, 1, 0, 1), Check.NOTHING);
        Check.layRow(x, 0, 1, 2, 3, 4);
        Check.found("copy: NOTHING to", x, x.copy(0, 9, 1, 0, 1), Check.NOTHING);
        x.row(1, 2);
        Check.found("copy: BEYOND from", x, x.copy(0, 3, 1, 0, 2), Check.BEYOND);
        Check.found("copy: BEYOND to", x, x.copy(0, 0, 1, 1, 2), Check.BEYOND);
        Check.found("copy: i below 0, n 0", x, x.copy(0, -1, 1, 0, 0), Check.BEYOND);
        Check.found("copy: i above, n 0", x, x.copy(0, 5, 1, 0, 0), Check.BEYOND);
        Check.found("copy: j below 0, n 0", x, x.copy(0, 0, 1, -1, 0), Check.BEYOND);
        Check.found("copy: j above, n 0", x, x.copy(0, 0, 1, 3, 0), Check.BEYOND);
        Check.found("copy: n MAX", x, x.copy(0, 4, 1, 2, Integer.MAX_VALUE), Check.BEYOND);
        Check.rowIs("copies refused", x, 1, 0, 0);
        Check.due("copy: n 0 at the ends", x.copy(0, 4, 1, 2, 0), 1);
        x.row(2, 0);
        x.row(3, 0);
        Check.due("copy: none of none", x.copy(2, 0, 3, 0, 0), 1);
        Check.found("copy: 1 of none", x, x.copy(2, 0, 3, 0, 1), Check.BEYOND);
        Check.due("copy(0, 2, 1, 0, 2)", x.copy(0, 2, 1, 0, 2), 1);
        Check.rowIs("copy to another", x, 1, 3, 4);
        Check.due("copy up in itself", x.copy(0, 0, 0, 1, 3), 1);
        Check.rowIs("copy up in itself", x, 0, 1, 1, 2, 3);
        Check.due("copy down in itself", x.copy(0, 2, 0, 0, 2), 1);
        Check.rowIs("copy down in itself", x, 0, 2, 3, 2, 3);
    }

    private static void means() {
        LampCave x = new LampCave();
        Check.due("mean(6)", x.mean(6), Check.BAD);
        Check.found("mean(2)", x, x.mean(2), Check.NOTHING);
        x.row(2, 0);
        Check.found("mean of none", x, x.mean(2), Check.NOUGHT);
        Check.layRow(x, 2, 7);
        Check.told("mean(7)", x, x.mean(2), 7);
        Check.layRow(x, 2, 7, 4);
        Check.told("mean(7, 4)", x, x.mean(2), 5);
        Check.layRow(x, 2, -7, -4);
        Check.told("mean(-7, -4) is cut", x, x.mean(2), -5);
        Check.layRow(x, 2, Integer.MAX_VALUE, Integer.MAX_VALUE, Integer.MAX_VALUE);
        Check.told("mean of great ones", x, x.mean(2), Integer.MAX_VALUE);
        Check.layRow(x, 2, Integer.MIN_VALUE, Integer.MIN_VALUE);
        Check.told("mean of least ones", x, x.mean(2), Integer.MIN_VALUE);
    }

    private static void texts() {
        LampCave x = new LampCave();
        Check.due("text(-1, 0)", x.text(-1, 0), Check.BAD);
        Check.due("text(4, 0)", x.text(4, 0), Check.BAD);
        Check.due("text(0, 81)", x.text(0, 81), Check.BAD);
        Check.found("text(0, -1)", x, x.text(0, -1), Check.SIZE);
        Check.due("put(4, ..)", x.put(4, 0, 1), Check.BAD);
        Check.found("put(0, 0, 1)", x, x.put(0, 0, 1), Check.NOTHING);
        Check.due("text(0, 80)", x.text(0, 80), 80);
        Check.due("text(3, 0)", x.text(3, 0), 0);
        Check.due("count(7)", x.count(7), 2);
        Check.due("put(0, 79, 200)", x.put(0, 79, 200), 1032);
        Check.due("put(0, 79, -129)", x.put(0, 79, -129), 1000 - 56);
        Check.due("put(0, 79, 256)", x.put(0, 79, 256), 1127);
        Check.due("put(0, 79, 5)", x.put(0, 79, 5), 1000);
        Check.found("put(0, 80, 1)", x, x.put(0, 80, 1), Check.BEYOND);
        Check.found("put(0, -1, 1)", x, x.put(0, -1, 1), Check.BEYOND);
        Check.due("asked() is not told by put()", x.asked(), 0);
        x.text(0, 80);
        Check.due("put in a text made anew", x.put(0, 79, 1), 1032);
    }

    private static void faults() {
        LampCave none = new LampCave();
        Check.due("fault(4)", none.fault(4), Check.BAD);
        Check.due("fault(-1)", none.fault(-1), Check.BAD);
        Check.found("fault(0)", none, none.fault(0), Check.NOTHING);
        fault("", 0);
        fault("   ", 3);
        fault("wr03", Check.NONE);
        fault("  wo39  ", Check.NONE);
        fault("wr03 p5235 k3146 c2219 l4337 s1123", Check.NONE);
        fault("wr03p5235k3146c2219l4337s1123", Check.NONE);
        fault("  wr03   g0001  ", Check.NONE);
        fault("x", 0);
        fault(" Wr03", 1);
        fault("w", 1);
        fault("w r03", 1);
        fault("wx03", 1);
        fault("wr", 2);
        fault("wr4", 2);
        fault("wr43", 2);
        fault("wr/3", 2);
        fault("wr0:", 3);
        fault("wr0", 3);
        fault("wr0 3", 3);
        fault("wr03 q5235", 5);
        fault("wr03 wr03", 5);
        fault("wr03 5", 5);
        fault("wr03 p", 6);
        fault("wr03 p 235", 6);
        fault("wr03 p5", 7);
        fault("wr03 p5x", 7);
        fault("wr03 p52", 8);
        fault("wr03 p52-", 8);
        fault("wr03 p523", 9);
        fault("wr03 p5230", 9);
        fault("wr03 p523 ", 9);
        fault("wr03 p52351", 10);
        fault("wr03 p0001 p0001 p0001 p0001 p0001 p0001", 35);
        fault("wr03 p0001 p0001 p0001 p0001 p0001 x", 35);
        fault("wr03 p0001 p0001 p0001 p0001 p0001   ", Check.NONE);
        fault("wr03 p000" + (char) 177, 9);
    }

    private static void fault(String signs, int want) {
        LampCave x = new LampCave();
        Check.write(x, 2, signs);
        Check.due("fault of '" + signs + "'", x.fault(2), want);
        if (want == Check.NONE) {
            Check.that("cave of '" + signs + "'", x.cave(2) >= 0);
        } else {
            Check.due("cave of '" + signs + "'", x.cave(2), Check.STATE);
        }
        Check.due("fault() is no FINDING", x.finding(), 0);
    }
}

/** Promises 1 to 4: a new object, feed, load, errorPosition, and section 5 of the document. */
public final class TextTest {
    private static final String TUBE = "tube 0 1 3 400 50;";
    private static final String LOADED = "gauges 3 40000; leg 1 900 500 -30; tube 1 2 4 250 100 mark -7; pressure 2 39000;";

    public static void main(String[] args) {
        newObject();
        constants();
        feeding();
        reading();
        toldAgain();
        refusedLengths();
        grammarErrors();
        rangeErrors();
        thirteenTubes();
        errorsChangeNothing();
        discarding();
        Checks.end();
    }

    private static void newObject() {
        SlantGauges row = new SlantGauges();
        int[] sizes = {2, 50000, 0, 0, 0, 0, 0, 0};
        for (int what = 0; what < sizes.length; what++) {
            Checks.due("size of a new row", row.size(what), sizes[what]);
        }
        for (int leg = 0; leg < 2; leg++) {
            Checks.due("density", row.leg(leg, 0), 1000);
            Checks.due("area", row.leg(leg, 1), 10000);
            Checks.due("curve", row.leg(leg, 2), 0);
            Checks.due("level", row.leg(leg, 3), 0);
            for (int what = 0; what <= 4; what++) {
                Checks.due("account", row.account(leg, what), 0L);
            }
        }
        Checks.due("pressure", row.pressure(0), 50000);
        Checks.due("pressure", row.pressure(1), 50000);
        Checks.noSuch("pressure(2)", () -> row.pressure(2));
        Checks.due("errorPosition", row.errorPosition(), -1);
        Checks.due("undoCount", row.undoCount(), 0);
        Checks.due("restoreSnapshot", row.restoreSnapshot(), false);
        Checks.due("formattedByte", row.formattedByte(0), -1);
        Checks.due("as by the text", Checks.picture(row), Checks.picture(Checks.loaded("gauges 2 50000;")));
    }

    private static void constants() {
        Checks.due("NONE", SlantGauges.NONE, -1);
        Checks.due("HIDDEN", SlantGauges.HIDDEN, -1000000000);
    }

    private static void feeding() {
        SlantGauges row = new SlantGauges();
        for (int k = 1; k <= 30; k++) {
            Checks.due("feed", row.feed(0x20202020, 0x20202020, 0x20202020, 0x20202020, 0x20202020), 20 * k);
        }
        Checks.due("feed beyond 600", row.feed(1, 1, 1, 1, 1), -1);
        Checks.illegal("load(601)", () -> row.load(601));
        Checks.due("load of 600 spaces", row.load(600), -11);
        Checks.due("the buffer's end", row.errorPosition(), 600);
        Checks.due("feed into the emptied buffer", row.feed(0, 0, 0, 0, 0), 20);

        SlantGauges order = new SlantGauges();
        order.feed(0x67617567, 0x65732033, 0x20343030, 0x30303b80, 0xff000001);
        Checks.due("bytes in their order", order.load(15), 0);
        Checks.due("points", order.size(0), 3);
        Checks.due("reference", order.size(1), 40000);
        order.feed(0x67617567, 0x65732033, 0x20343030, 0x30303b80, 0xff000001);
        Checks.due("a byte above 127", order.load(20), -11);
        Checks.due("its position", order.errorPosition(), 15);
    }

    private static void reading() {
        SlantGauges row = new SlantGauges();
        Checks.due("load", Checks.load(row, LOADED + " tube 0 0 5 500 60; pressure 0 40001;"), 1);
        int[] sizes = {3, 40000, 2, 1, 1, 0, 1, 1};
        for (int what = 0; what < sizes.length; what++) {
            Checks.due("size " + what, row.size(what), sizes[what]);
        }
        int[] pressures = {40001, 50000, 39000};
        for (int point = 0; point < 3; point++) {
            Checks.due("pressure", row.pressure(point), pressures[point]);
        }
        int[] leg = {900, 500, -30};
        for (int what = 0; what < 3; what++) {
            Checks.due("leg 1", row.leg(1, what), leg[what]);
        }
        int[] tube = {1, 2, 4, 250, 100, -7, 0};
        for (int what = 0; what < tube.length; what++) {
            Checks.due("tube 0", row.tube(0, what), tube[what]);
        }
        Checks.due("mark not told", row.tube(1, 5), 0);
        Checks.due("errorPosition", row.errorPosition(), -1);
        Checks.due("words at numbers", Checks.load(row, "gauges08 0000000000050000;pressure0 00;leg1 100 99999-9999;"), 0);
        Checks.due("leading zeros", row.size(0), 8);
        Checks.due("leading zeros", row.size(1), 50000);
        Checks.due("pressure 0", row.pressure(0), 0);
        Checks.due("curve", row.leg(1, 2), -9999);
        Checks.due("line ends", Checks.load(row, "\n gauges\n2\n\n0 ;\n"), 0);
        Checks.due("reference 0", row.size(1), 0);
        Checks.due("one clause behind the settling", Checks.load(row, "gauges 2 99999; leg 0 20000 100 9999;"
                + "tube 0 0 20 1000 2000 mark 9999; tube 0 1 1 50 10 mark - 9999; pressure 1 99999;"), 1);
        Checks.due("mark 9999", row.tube(0, 5), 9999);
        Checks.due("mark - 9999", row.tube(1, 5), -9999);
        Checks.due("only the first bytes", loadFirst(row, "gauges 2 50000; x", 15), 0);
        Checks.due("a word ends with the text", loadFirst(row, "gauges 2 50000; pressures 0 0;", 24), -11);
        Checks.due("errorPosition", row.errorPosition(), 24);
        Checks.due("a number ends with the text", loadFirst(row, "gauges 2 50000999;", 14), -11);
        Checks.due("errorPosition", row.errorPosition(), 14);
        Checks.due("nothing is left", answerOfLoad(row, 1), (Object) "IllegalArgumentException");
    }

    private static int loadFirst(SlantGauges row, String text, int length) {
        Checks.feed(row, text);
        return row.load(length);
    }

    private static Object answerOfLoad(SlantGauges row, int length) {
        return Checks.answerOf(() -> row.load(length));
    }

    private static void toldAgain() {
        SlantGauges row = Checks.loaded("gauges 2 50000; leg 0 800 700 60; leg 0 900 800 -70; pressure 1 1;"
                + "pressure 1 2;");
        Checks.due("density told again", row.leg(0, 0), 900);
        Checks.due("area told again", row.leg(0, 1), 800);
        Checks.due("curve told again", row.leg(0, 2), -70);
        Checks.due("pressure told again", row.pressure(1), 2);
        SlantGauges late = Checks.loaded("gauges 2 50000; tube 0 0 1 1000 10; pressure 0 60000; pressure 0 50000;");
        Checks.due("settled once, behind the whole text", late.size(3), 1);
    }

    private static void refusedLengths() {
        SlantGauges row = Checks.loaded(LOADED);
        Checks.feed(row, "gauges 2 50000;");
        for (int length : new int[] {-1, 21, Integer.MIN_VALUE, Integer.MAX_VALUE}) {
            Checks.refused(row, "load(" + length + ")", "IllegalArgumentException", () -> row.load(length));
        }
        Checks.due("the buffer is still there", row.load(15), 0);
    }

    private static void error(String text, int code, int position) {
        SlantGauges row = new SlantGauges();
        Checks.due("load of " + text, Checks.load(row, text), -10 - code);
        Checks.due("errorPosition of " + text, row.errorPosition(), position);
    }

    private static void grammarErrors() {
        error("", 1, 0);
        error("  ", 1, 2);
        error("gauge 2 50000;", 1, 0);
        error("gaugess 2 50000;", 1, 0);
        error("gaugesz 2 50000;", 1, 0);
        error("mauges 2 50000;", 1, 0);
        error("gaugec 2 50000;", 1, 0);
        error("Gauges 2 50000;", 1, 0);
        error("gauges", 1, 6);
        error("gauges ; 50000;", 1, 7);
        error("gauges 2 -5;", 1, 9);
        error("gauges 2 50000 ", 1, 15);
        error("gauges 2 50000 leg", 1, 15);
        error("gauges 2 50000;;", 1, 15);
        error("gauges 2 50000; many", 1, 16);
        error("gauges 2 50000; 7", 1, 16);
        error("gauges 2 50000; le", 1, 16);
        error("gauges 2 50000; leg 0 1000 10000;", 1, 32);
        error("gauges 2 50000; leg 0 1000 10000 - -5;", 1, 35);
        error("gauges 2 50000; leg 0 1000 10000 5", 1, 34);
        error("gauges 2 50000; leg 0 1000 10000 -", 1, 34);
        error("gauges 2 50000; tube 0 1 3 400;", 1, 30);
        error("gauges 2 50000; tube 0 1 3 400 50 mark;", 1, 38);
        error("gauges 2 50000; tube 0 1 3 400 50 mark 3 mark 4;", 1, 41);
        error("gauges 2 50000; tube 0 1 3 400 50 7;", 1, 34);
        error("gauges 2 50000; pressure 0 5 6;", 1, 29);
        error("gauges 2 50000; pressure 0 -5;", 1, 27);
        error("gauges 2 50000; pressure (0) 5;", 1, 25);
        error("gauges\t2 50000;", 1, 6);
        error("gauges 2 50000;\u00e9", 1, 15);
    }

    private static void rangeErrors() {
        error("gauges 1 50000;", 2, 7);
        error("gauges 9 50000;", 2, 7);
        error("gauges 2 100000;", 2, 9);
        error("gauges 2 4294967296;", 2, 9);
        error("gauges 2 99999999999999999999999;", 2, 9);
        String start = "gauges 2 50000;";
        error(start + "leg 2 1000 10000 0;", 2, 19);
        error(start + "leg 0 99 10000 0;", 2, 21);
        error(start + "leg 0 20001 10000 0;", 2, 21);
        error(start + "leg 0 1000 99 0;", 2, 26);
        error(start + "leg 0 1000 100000 0;", 2, 26);
        error(start + "leg 0 1000 10000 10000;", 2, 32);
        error(start + "leg 0 1000 10000 - 10000;", 2, 34);
        error(start + "tube 2 1 3 400 50;", 2, 20);
        error(start + "tube 0 2 3 400 50;", 2, 22);
        error(start + "tube 0 1 0 400 50;", 2, 24);
        error(start + "tube 0 1 21 400 50;", 2, 24);
        error(start + "tube 0 1 3 49 50;", 2, 26);
        error(start + "tube 0 1 3 1001 50;", 2, 26);
        error(start + "tube 0 1 3 400 9;", 2, 30);
        error(start + "tube 0 1 3 400 2001;", 2, 30);
        error(start + "tube 0 1 3 400 50 mark 10000;", 2, 38);
        error(start + "tube 0 1 3 400 50 mark -10000;", 2, 39);
        error(start + "pressure 2 50000;", 2, 24);
        error(start + "pressure 1 100000;", 2, 26);
        error("gauges 9 50000 x", 2, 7);
        error("gauges x 100000;", 1, 7);
        Checks.due("the ends of the ranges", Checks.load(new SlantGauges(), "gauges 8 99999;"
                + "leg 0 100 100 9999; leg 1 20000 99999 -9999; tube 0 7 1 50 10; tube 1 0 20 1000 2000;"
                + "pressure 0 0; pressure 7 99999;"), 1);
    }

    private static void thirteenTubes() {
        StringBuilder text = new StringBuilder("gauges 2 50000;");
        for (int k = 0; k < 12; k++) {
            text.append(TUBE);
        }
        SlantGauges row = new SlantGauges();
        Checks.due("12 tubes", Checks.load(row, text.toString()), 12);
        error(text + TUBE, 3, text.length());
        error(text + "tube 7", 3, text.length());
        error(text + "pressure 0 tube", 1, text.length() + 11);
        error(text + "tubes", 1, text.length());
    }

    private static void errorsChangeNothing() {
        SlantGauges row = Checks.loaded(LOADED);
        row.saveSnapshot();
        row.setPressure(0, 39000);
        row.format(0);
        String before = Checks.picture(row);
        Checks.due("load with an error", Checks.load(row, "gauges 2 50000; " + TUBE + "pressure 0 1; tube 0 1 3 400;"), -11);
        Checks.due("errorPosition", row.errorPosition(), 62);
        Checks.due("nothing else changed", Checks.picture(row), before);
        Checks.due("undoCount", row.undoCount(), 1);
        Checks.illegal("the buffer is empty", () -> row.load(1));
        Checks.due("a call that did not read", row.errorPosition(), 62);
        Checks.due("undo", row.undo(), 0);
        Checks.due("the snapshot is still there", row.restoreSnapshot(), true);
        Checks.due("load(0)", row.load(0), -11);
        Checks.due("errorPosition", row.errorPosition(), 0);
        Checks.load(row, "gauges 2 50000;");
        Checks.due("errorPosition behind a load without an error", row.errorPosition(), -1);
    }

    private static void discarding() {
        SlantGauges row = Checks.loaded(LOADED);
        row.refill(1, 5000);
        row.saveSnapshot();
        row.setReference(41000);
        Checks.load(row, "gauges 2 50000;");
        Checks.due("replaces everything", Checks.picture(row), Checks.picture(new SlantGauges()));
        Checks.due("undoCount behind load", row.undoCount(), 0);
        Checks.due("undo behind load", row.undo(), -1);
        Checks.due("restoreSnapshot behind load", row.restoreSnapshot(), false);
        SlantGauges asked = Checks.loaded("gauges 2 50000; tube 1 0 1 500 10;");
        asked.refill(1, 5000);
        asked.setPressure(0, 0);
        asked.wouldBreak(0, 60000);
        Checks.load(asked, LOADED);
        Checks.due("nothing of a forecast either", Checks.picture(asked), Checks.picture(Checks.loaded(LOADED)));
    }
}

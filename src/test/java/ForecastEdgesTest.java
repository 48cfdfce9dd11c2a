/** Promises 18 to 22 at their boundaries: what would break and what would not, and that asking changes nothing. */
public final class ForecastEdgesTest {
    // As long as a pull is more than 0 the level is -1, and it is 0 without pulls: a pull of 1001 fills the tube.
    private static final String WIDE = "gauges 3 50000; leg 0 1000 99999 0; leg 1 1000 99999 0; ";
    private static final String TUBE = "tube 0 0 1 1000 10 mark 7;";

    interface Question {
        int ask(SlantGauges row);
    }

    public static void main(String[] args) {
        wouldBreakOnBothSides();
        wouldBreakOfTubesFromNoneToTwelve();
        wouldBreakOnlyOfWholeOnes();
        readingWithOnBothSides();
        readingWithOfTheLastTube();
        breaksInFromOneToSixty();
        breaksInDownToThePressureZero();
        breaksInUpToThePressure99999();
        breaksInBySteps();
        breaksInForTheFirstTime();
        bestSlantFrom50To1000();
        bestSlantOfBrokenOnes();
        bestSlantAmongOthers();
        bestSlantWithNone();
        lostWithOnBothSides();
        lostWithFromNoneToTwelve();
        aForecastIsWhatTheOperationDoes();
        nothingIsLeftOfAForecast();
        Checks.end();
    }

    /** Asks on a row of its own; nothing changes by it. */
    private static void asked(String call, String text, int due, Question question) {
        Checks.unchanged(call + " of " + text, () -> recorded(text), due, row -> question.ask(row));
    }

    private static SlantGauges recorded(String text) {
        SlantGauges row = Checks.loaded(text);
        row.saveSnapshot();
        row.setReference(row.size(1));
        Checks.feed(row, "gauges 4 40000;");
        return row;
    }

    private static void wouldBreak(String text, int point, int pressure, int due) {
        asked("wouldBreak " + point + " " + pressure, text, due, row -> row.wouldBreak(point, pressure));
    }

    private static void wouldBreakOnBothSides() {
        wouldBreak(WIDE + TUBE, 0, 48999, 0);
        wouldBreak(WIDE + TUBE, 0, 48998, 1);
        wouldBreak(WIDE + TUBE, 0, 50000, 0);
        wouldBreak(WIDE + TUBE, 0, 50001, 1);
        wouldBreak(WIDE + TUBE, 0, 0, 1);
        wouldBreak(WIDE + TUBE, 0, 99999, 1);
        wouldBreak(WIDE + TUBE, 2, 0, 0);
    }

    private static void wouldBreakOfTubesFromNoneToTwelve() {
        wouldBreak("gauges 2 50000;", 0, 0, 0);
        wouldBreak(WIDE + TUBE.repeat(12), 0, 0, 4095);
        wouldBreak(WIDE + TUBE.repeat(12), 0, 99999, 4095);
        String tubes = "tube 0 0 1 1000 2000;".repeat(11) + "tube 1 1 1 1000 10;";
        wouldBreak(WIDE + tubes, 1, 0, 2048);
        wouldBreak(WIDE + tubes, 1, 99999, 2048);
        wouldBreak(WIDE + tubes, 0, 99999, 2047);
        wouldBreak(WIDE + "tube 0 1 1 1000 10;" + TUBE.repeat(11), 1, 99999, 1);
    }

    private static void wouldBreakOnlyOfWholeOnes() {
        String broken = WIDE + "tube 0 1 1 1000 10; tube 0 2 1 1000 10; tube 0 0 1 1000 10;"
                + "pressure 0 49500; pressure 1 0; pressure 2 50001;";
        wouldBreak(broken, 1, 0, 0);
        wouldBreak(broken, 1, 99999, 0);
        wouldBreak(broken, 2, 99999, 0);
        wouldBreak(broken, 0, 99999, 4);
    }

    private static void readingWith(String text, int tube, int point, int pressure, int due) {
        asked("readingWith " + tube + " " + point + " " + pressure, text, due, row -> row.readingWith(tube, point, pressure));
    }

    private static void readingWithOnBothSides() {
        readingWith(WIDE + TUBE, 0, 0, 48999, 107);
        readingWith(WIDE + TUBE, 0, 0, 48998, 7);
        readingWith(WIDE + TUBE, 0, 0, 49000, 106);
        readingWith(WIDE + TUBE, 0, 0, 49990, 7);
        readingWith(WIDE + TUBE, 0, 0, 49989, 8);
        readingWith(WIDE + TUBE, 0, 0, 50000, 7);
        readingWith(WIDE + TUBE, 0, 0, 50001, 7);
        readingWith(WIDE + TUBE, 0, 0, 0, 7);
        readingWith(WIDE + TUBE, 0, 0, 99999, 7);
        readingWith(WIDE + TUBE + "pressure 0 49489;", 0, 1, 0, 58);
        readingWith(WIDE + TUBE + "pressure 0 49489;", 0, 0, 49489, 58);
    }

    private static void readingWithOfTheLastTube() {
        String tubes = "tube 0 0 1 1000 2000 mark -5;".repeat(11) + "tube 1 1 1 1000 2000 mark 9;";
        readingWith(WIDE + tubes, 11, 1, 48999, 109);
        readingWith(WIDE + tubes, 10, 1, 48999, -5);
        readingWith(WIDE + tubes, 10, 0, 48999, 95);
        readingWith(WIDE + TUBE + "pressure 0 50001;", 0, 0, 49000, 7);
        readingWith(WIDE + TUBE + "pressure 0 0;", 0, 0, 49000, 7);
    }

    private static void breaksIn(String text, int step, int due) {
        asked("breaksIn by " + step, text, due, row -> row.breaksIn(0, step));
    }

    private static void breaksInFromOneToSixty() {
        // 42 and 60 times 16 are 1002, 41 and 60 times 16 only 1001.
        breaksIn(WIDE + TUBE + "pressure 0 49958;", -16, 60);
        breaksIn(WIDE + TUBE + "pressure 0 49959;", -16, -1);
        breaksIn(WIDE + TUBE + "pressure 0 48999;", -1, 1);
        breaksIn(WIDE + TUBE + "pressure 0 49000;", -1, 2);
        breaksIn(WIDE + TUBE + "pressure 0 49000;", -2, 1);
        // In 60 steps to 50001, in 61 steps to it.
        breaksIn(WIDE + TUBE + "pressure 0 49941;", 1, 60);
        breaksIn(WIDE + TUBE + "pressure 0 49940;", 1, -1);
        breaksIn(WIDE + TUBE + "pressure 0 50000;", 1, 1);
        breaksIn(WIDE + TUBE + "pressure 0 49999;", 1, 2);
    }

    private static void breaksInDownToThePressureZero() {
        String text = "leg 0 1000 99999 0; tube 0 0 1 1000 10; pressure 0 30;";
        breaksIn("gauges 2 1001;" + text, -20, -1);
        breaksIn("gauges 2 1002;" + text, -20, 2);
        breaksIn("gauges 2 1002;" + text, -29, 2);
        breaksIn("gauges 2 1002;" + text, -30, 1);
        breaksIn("gauges 2 1002;" + text, -9999, 1);
        breaksIn("gauges 2 1001;" + text, -9999, -1);
    }

    private static void breaksInUpToThePressure99999() {
        String text = "leg 0 1000 99999 0; tube 0 0 1 1000 10; pressure 0 99969;";
        breaksIn("gauges 2 99999;" + text, 20, -1);
        breaksIn("gauges 2 99998;" + text, 20, 2);
        breaksIn("gauges 2 99998;" + text, 29, 2);
        breaksIn("gauges 2 99998;" + text, 30, 1);
        breaksIn("gauges 2 99998;" + text, 9999, 1);
        breaksIn("gauges 2 99999;" + text, 9999, -1);
    }

    private static void breaksInBySteps() {
        breaksIn(WIDE + TUBE, 0, -1);
        breaksIn(WIDE + TUBE, -9999, 1);
        breaksIn(WIDE + TUBE, 9999, 1);
        breaksIn("gauges 2 50000;", -9999, -1);
        breaksIn("gauges 2 50000;", 9999, -1);
        asked("at a point without tubes", WIDE + TUBE, -1, row -> row.breaksIn(2, -9999));
    }

    private static void breaksInForTheFirstTime() {
        String broken = WIDE + "tube 0 0 1 1000 10; tube 0 1 1 1000 10; pressure 0 0; pressure 1 49500;";
        breaksIn(broken, 9999, -1);
        breaksIn(WIDE + "tube 0 0 1 1000 10; tube 0 0 1 1000 20;", -100, 11);
        breaksIn(WIDE + "tube 0 0 1 1000 20; tube 0 0 1 1000 10;", -100, 11);
        breaksIn(WIDE + "tube 0 0 1 1000 20; tube 1 0 1 1000 10;", -100, 11);
    }

    private static void bestSlant(String text, int due) {
        asked("bestSlant", text, due, row -> row.bestSlant(0));
    }

    private static void bestSlantFrom50To1000() {
        // A height of 50 is 1000 long by 50, one of 51 would be 1020; 100 and 101 likewise by 100.
        bestSlant(WIDE + TUBE + "pressure 0 49949;", 50);
        bestSlant(WIDE + TUBE + "pressure 0 49948;", 100);
        bestSlant(WIDE + TUBE + "pressure 0 49899;", 100);
        bestSlant(WIDE + TUBE + "pressure 0 49898;", 150);
        // 949 is 998 long by 950; 950 is just 1000; 951 only goes by 1000.
        bestSlant(WIDE + TUBE + "pressure 0 49049;", 950);
        bestSlant(WIDE + TUBE + "pressure 0 49048;", 1000);
        bestSlant(WIDE + TUBE + "pressure 0 48999;", 1000);
        // No column by any of them.
        bestSlant(WIDE + TUBE, 1000);
        bestSlant(WIDE + TUBE + "pressure 0 49999;", 1000);
        // A height of 1 is 20 long by 50, and what it stands at now counts for nothing.
        bestSlant(WIDE + "tube 0 0 1 77 10; pressure 0 49998;", 50);
        // By 51 to 59 it would be longer than by 100, but they are not asked.
        bestSlant(WIDE + "tube 0 0 1 51 10; pressure 0 49948;", 100);
    }

    private static void bestSlantOfBrokenOnes() {
        bestSlant(WIDE + TUBE + "pressure 0 50001;", -1);
        bestSlant(WIDE + TUBE + "pressure 0 0;", -1);
        bestSlant(WIDE + TUBE + TUBE + "tube 0 1 1 1000 10; pressure 0 49949; pressure 1 0;", 50);
        asked("bestSlant of the twelfth", WIDE + TUBE.repeat(12) + "pressure 0 49949;", 50, row -> row.bestSlant(11));
    }

    /** The longer the column of the tube 0 gets, the deeper sinks the level, until the tube 1 is sucked. */
    private static void bestSlantAmongOthers() {
        String narrow = WIDE + "tube 0 0 10 1000 2000; tube 0 1 1 1000 10; pressure 0 49099; pressure 1 ";
        bestSlant(narrow + "49900;", 50);
        // The tube 1 needs the level -1, which gives 99999: the tube 0 takes 94700 by 950 and 100000 by 900.
        bestSlant(narrow + "49999;", 950);
        // It needs the level -2, which gives 199998: the tube 0 takes 199700 by 450 and 224700 by 400.
        bestSlant(narrow + "49998;", 450);
    }

    /** Both stand whole by the slant 81, but by each that is asked one of them breaks. */
    private static void bestSlantWithNone() {
        String text = "gauges 2 50000; leg 0 1000 100 0; tube 0 0 3 81 44; tube 0 1 9 600 17;"
                + "pressure 0 47922; pressure 1 47254;";
        SlantGauges row = Checks.loaded(text);
        Checks.due("both are whole", row.size(3), 2);
        for (int slant = 50; slant <= 1000; slant += 50) {
            Checks.due("by " + slant + " one breaks", row.setSlant(0, slant) > 0, true);
            row.undo();
        }
        bestSlant(text, -1);
    }

    private static void lostWith(String text, int reference, int due) {
        asked("lostWith " + reference, text, due, row -> row.lostWith(reference));
    }

    private static void lostWithOnBothSides() {
        lostWith(WIDE + TUBE, 51001, 0);
        lostWith(WIDE + TUBE, 51002, 1);
        lostWith(WIDE + TUBE, 50000, 0);
        lostWith(WIDE + TUBE, 49999, 1);
        lostWith(WIDE + TUBE, 0, 1);
        lostWith(WIDE + TUBE, 99999, 1);
    }

    private static void lostWithFromNoneToTwelve() {
        lostWith("gauges 2 50000;", 0, 0);
        lostWith("gauges 2 50000;", 99999, 0);
        lostWith(WIDE + TUBE.repeat(12), 0, 12);
        lostWith(WIDE + TUBE.repeat(12), 99999, 12);
        lostWith(WIDE + TUBE.repeat(11) + "tube 1 1 1 1000 20;", 51500, 11);
        lostWith(WIDE + TUBE + "pressure 0 50001;", 0, 0);
        lostWith(WIDE + TUBE + "pressure 0 0;", 99999, 0);
    }

    /** On a narrow leg the tubes sink and rise with one another. */
    private static void aForecastIsWhatTheOperationDoes() {
        String text = "gauges 2 50000; leg 0 1000 100 0; tube 0 0 10 1000 10 mark 3; tube 0 1 1 1000 10 mark 4;"
                + "pressure 0 49100; pressure 1 48700;";
        for (int pressure = 47000; pressure <= 51000; pressure += 50) {
            SlantGauges asked = Checks.loaded(text);
            SlantGauges done = Checks.loaded(text);
            int lost = asked.lostWith(pressure + 1000);
            int broken = asked.wouldBreak(0, pressure);
            int[] readings = {asked.readingWith(0, 0, pressure), asked.readingWith(1, 0, pressure)};
            Checks.due("as many", done.setPressure(0, pressure), Integer.bitCount(broken));
            for (int tube = 0; tube < 2; tube++) {
                Checks.due("this one", done.tube(tube, 6) != 0, (broken >> tube & 1) == 1);
                Checks.due("reading", done.tube(tube, 8), readings[tube]);
            }
            done.undo();
            Checks.due("by the reference", done.setReference(pressure + 1000), lost);
        }
    }

    /** What an earlier forecast broke is whole in the next one, also where tubes have gone in between. */
    private static void nothingIsLeftOfAForecast() {
        SlantGauges row = Checks.loaded(WIDE + TUBE.repeat(12));
        Checks.due("all would break", row.wouldBreak(0, 0), 4095);
        Checks.due("none would break", row.wouldBreak(0, 48999), 0);
        for (int left = 11; left >= 0; left--) {
            row.dropTube(left);
            Checks.due("none of " + left, row.wouldBreak(0, 48999), 0);
            Checks.due("none of " + left, row.lostWith(51001), 0);
            Checks.due("all of " + left, row.wouldBreak(0, 0), (1 << left) - 1);
            Checks.due("all of " + left, row.lostWith(0), left);
        }
        SlantGauges filled = Checks.loaded(WIDE + TUBE);
        filled.refill(0, 5000);
        filled.lostWith(99999);
        Checks.load(filled, "gauges 2 50000; tube 0 0 1 50 10;");
        Checks.due("load behind a forecast", Checks.everything(filled),
                Checks.everything(Checks.loaded("gauges 2 50000; tube 0 0 1 50 10;")));
    }
}

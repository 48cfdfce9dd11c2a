/** Promises 5 to 17, 23 and 24 and the sections 2 to 4 of the document at their boundaries, a sentence by a method. */
public final class SeenEdgesTest {
    private static final int HIDDEN = SlantGauges.HIDDEN;
    // As long as a pull is more than 0 the level is -1, and it is 0 without pulls.
    private static final String WIDE = "gauges 4 50000; leg 0 1000 99999 0; leg 1 1000 99999 0; ";

    public static void main(String[] args) {
        sizesFromNoneToTwelve();
        pullsAreCutTowardZero();
        pullsAtTheEndsOfTheRanges();
        menisciAreCutTowardZero();
        runsAreCutTowardZero();
        aRunOfZeroIsWhole();
        aFullColumnIsWhole();
        aLongFullColumnIsWhole();
        theLevelIsTheGreatest();
        theLevelWithColumns();
        aLevelBelowZeroIsNotCutTowardZero();
        allBreakByOneLevel();
        legsSettleEachByItself();
        brokenTubesHaveNoColumn();
        emptyColumnsCountForTheLevel();
        fullColumnsCountForTheLevel();
        brokenTubesHavePullsAndMenisci();
        readingsAreCut();
        toldByARiseBelowZero();
        toldByARiseAboveZero();
        toldByALongColumn();
        toldWithAMeniscus();
        hiddenIsWhatIsNotWhole();
        differencesAreCutTowardZero();
        differencesOfTwoLegs();
        differencesByTheirOwnDensity();
        eachHeightOfADifferenceIsCut();
        aDifferenceWithItself();
        ringOfFewerThanTwo();
        ringOfTwo();
        ringOfThree();
        ringPassesOverBrokenOnes();
        ringOverTwoLegs();
        roomFromFullToEmpty();
        longestOfNoneOneAndSeveral();
        worstOfNoneOneAndSeveral();
        agreeAtItsUnits();
        agreeOfNoneAndOne();
        agreeOfWholeOnesAlone();
        meanOfNoneOneAndTwelve();
        shareOfNoneOneAndTwelve();
        accountsAtTheirEnds();
        accountsBeyondAnInt();
        Checks.end();
    }

    private static String tubes(int count, String tube) {
        return tube.repeat(count);
    }

    // ---- sizes ----

    private static void sizes(String text, int... due) {
        SlantGauges row = Checks.loaded(text);
        for (int what = 0; what < due.length; what++) {
            Checks.due("size " + what + " of " + text, row.size(what), due[what]);
        }
    }

    private static void sizesFromNoneToTwelve() {
        sizes("gauges 2 0;", 2, 0, 0, 0, 0, 0, 0, 0);
        sizes("gauges 8 99999;", 8, 99999, 0, 0, 0, 0, 0, 0);
        sizes("gauges 2 50000;" + tubes(12, "tube 0 1 1 50 10;"), 2, 50000, 12, 12, 0, 0, 12, 0);
        sizes("gauges 2 50000;" + tubes(12, "tube 1 1 1 50 10;"), 2, 50000, 12, 12, 0, 0, 0, 12);
        sizes("gauges 2 49999;" + tubes(12, "tube 1 1 1 50 10;"), 2, 49999, 12, 0, 12, 0, 0, 12);
        sizes("gauges 2 99999;" + tubes(12, "tube 0 1 1 50 10;"), 2, 99999, 12, 0, 0, 12, 12, 0);
    }

    // ---- section 2 ----

    private static void pullsAreCutTowardZero() {
        // By the density 1500: 1000 / 1500 and 2000 / 1500, and the same below 0.
        SlantGauges row = Checks.loaded("gauges 4 50000; leg 1 1500 10000 0; tube 1 0 1 500 10; tube 1 1 1 500 10;"
                + "tube 1 2 1 500 10; tube 1 3 1 500 10;"
                + "pressure 0 49999; pressure 1 49998; pressure 2 50001; pressure 3 50002;");
        int[] pulls = {0, 1, 0, -1};
        for (int tube = 0; tube < 4; tube++) {
            Checks.due("pull", row.tube(tube, 9), pulls[tube]);
        }
    }

    private static void pullsAtTheEndsOfTheRanges() {
        String light = "leg 0 100 99999 0; tube 0 0 1 1000 10;";
        String heavy = "leg 0 20000 99999 0; tube 0 0 1 1000 10;";
        Checks.due("light, up", Checks.loaded("gauges 2 99999;" + light + "pressure 0 0;").tube(0, 9), 999990);
        Checks.due("light, down", Checks.loaded("gauges 2 0;" + light + "pressure 0 99999;").tube(0, 9), -999990);
        Checks.due("heavy, up", Checks.loaded("gauges 2 99999;" + heavy + "pressure 0 0;").tube(0, 9), 4999);
        Checks.due("heavy, down", Checks.loaded("gauges 2 0;" + heavy + "pressure 0 99999;").tube(0, 9), -4999);
    }

    private static void menisciAreCutTowardZero() {
        int[] curves = {19, 20, 39, 40, 9999, -19, -20, -39, -40, -9999, 0};
        int[] wide = {0, 1, 1, 2, 499, 0, -1, -1, -2, -499, 0};
        for (int k = 0; k < curves.length; k++) {
            SlantGauges row = Checks.loaded("gauges 2 50000; leg 0 1000 10000 " + curves[k]
                    + "; tube 0 0 20 500 10; tube 0 0 1 500 10; tube 1 0 1 500 10;");
            Checks.due("by the widest bore", row.tube(0, 10), wide[k]);
            Checks.due("by the narrowest bore", row.tube(1, 10), curves[k]);
            Checks.due("in the other leg", row.tube(2, 10), 0);
        }
    }

    private static void runsAreCutTowardZero() {
        // Level -1: the heights are 1, 2 and 3.
        int[] slants = {1000, 999, 501, 500, 300, 51, 50};
        int[][] columns = {{1, 1, 1, 2, 3, 19, 20}, {2, 2, 3, 4, 6, 39, 40}, {3, 3, 5, 6, 10, 58, 60}};
        for (int height = 1; height <= 3; height++) {
            for (int k = 0; k < slants.length; k++) {
                SlantGauges row = Checks.loaded(WIDE + "tube 0 0 1 " + slants[k] + " 10; pressure 0 " + (49999 - height) + ";");
                Checks.due("level", row.leg(0, 3), -1);
                Checks.due("height " + height + " by " + slants[k], row.tube(0, 7), columns[height - 1][k]);
            }
        }
    }

    // ---- section 3 ----

    private static void stands(String text, int state, int column) {
        SlantGauges row = Checks.loaded(text);
        Checks.due("state in " + text, row.tube(0, 6), state);
        Checks.due("column in " + text, row.tube(0, 7), column);
    }

    private static void aRunOfZeroIsWhole() {
        for (int slant : new int[] {50, 999, 1000}) {
            String tube = WIDE + "tube 0 0 1 " + slant + " 10; pressure 0 ";
            stands(tube + "49999;", 0, 0);
            stands(tube + "50000;", 0, 0);
            stands(tube + "50001;", 1, 0);
        }
        String heavy = "gauges 2 50000; leg 0 20000 99999 0; tube 0 0 1 1000 10; pressure 0 ";
        stands(heavy + "50019;", 0, 0);
        stands(heavy + "50020;", 1, 0);
        String curved = "gauges 2 50000; tube 0 0 20 1000 10; leg 0 1000 99999 ";
        stands(curved + "-19;", 0, 0);
        stands(curved + "-20;", 1, 0);
    }

    private static void aFullColumnIsWhole() {
        stands(WIDE + "tube 0 0 1 1000 10; pressure 0 49000;", 0, 999);
        stands(WIDE + "tube 0 0 1 1000 10; pressure 0 48999;", 0, 1000);
        stands(WIDE + "tube 0 0 1 1000 10; pressure 0 48998;", 2, 0);
        // By the slant 300 a height of 300 is 1000 long, and one of 301 is 1003 long.
        stands(WIDE + "tube 0 0 1 300 10; pressure 0 49699;", 0, 1000);
        stands(WIDE + "tube 0 0 1 300 10; pressure 0 49698;", 2, 0);
        // By the slant 999 a height of 999 is 1000 long, and one of 1000 is 1001 long.
        stands(WIDE + "tube 0 0 1 999 10; pressure 0 49000;", 0, 1000);
        stands(WIDE + "tube 0 0 1 999 10; pressure 0 48999;", 2, 0);
    }

    private static void aLongFullColumnIsWhole() {
        // 200000 in the column draw the level to -3, which leaves 10000 and 10001 of the pulls.
        stands(WIDE + "tube 0 0 1 50 2000; pressure 0 39997;", 0, 200000);
        stands(WIDE + "tube 0 0 1 50 2000; pressure 0 39996;", 2, 0);
        SlantGauges full = Checks.loaded(WIDE + "tube 0 0 1 50 2000; pressure 0 39997;");
        Checks.due("level", full.leg(0, 3), -3);
        Checks.due("room", full.room(0), 0);
        Checks.due("lost", full.account(0, 2), 0L);
        SlantGauges blown = Checks.loaded(WIDE + "tube 0 0 20 50 2000; pressure 0 0;");
        Checks.due("the most that a tube can lose", blown.account(0, 2), 80000000L);
        Checks.due("leaves the stock", blown.account(0, 0), -80000000L);
    }

    private static void levelAndRest(SlantGauges row, int level, long rest) {
        Checks.due("level", row.leg(0, 3), level);
        Checks.due("rest", row.account(0, 4), rest);
    }

    private static void theLevelIsTheGreatest() {
        SlantGauges row = Checks.loaded("gauges 2 50000; leg 0 1000 100 0;");
        levelAndRest(row, 0, 0);
        row.refill(0, 99);
        levelAndRest(row, 0, 99);
        row.refill(0, 1);
        levelAndRest(row, 1, 0);
        row.refill(0, 99);
        levelAndRest(row, 1, 99);
        row.refill(0, 1);
        levelAndRest(row, 2, 0);
        Checks.due("the other leg", row.leg(1, 3), 0);
    }

    private static void theLevelWithColumns() {
        // 100 L + 100 (L + 1000) is 0 at -500 and 200 at -499.
        SlantGauges row = Checks.loaded("gauges 2 50000; leg 0 1000 100 0; tube 0 0 10 1000 10; pressure 0 49000;");
        levelAndRest(row, -500, 0);
        Checks.due("column", row.tube(0, 7), 500);
        Checks.due("volumes", row.account(0, 1), 50000L);
        row.refill(0, 199);
        levelAndRest(row, -500, 199);
        row.refill(0, 1);
        levelAndRest(row, -499, 0);
        Checks.due("column", row.tube(0, 7), 501);
        row.dropTube(0);
        levelAndRest(row, 2, 0);
    }

    private static void aLevelBelowZeroIsNotCutTowardZero() {
        String blown = "tube 0 0 1 1000 10; pressure 0 0;";
        int[] areas = {100, 300, 999, 1000, 1001, 99999};
        int[] levels = {-10, -4, -2, -1, -1, -1};
        long[] rests = {0, 200, 998, 0, 1, 98999};
        for (int k = 0; k < areas.length; k++) {
            SlantGauges row = Checks.loaded("gauges 2 50000; leg 0 1000 " + areas[k] + " 0;" + blown);
            Checks.due("stock", row.account(0, 0), -1000L);
            levelAndRest(row, levels[k], rests[k]);
        }
    }

    /** The tube 0 gets full and draws the level to -1000, by which it is blown and the tube 1 sucked at once. */
    private static void allBreakByOneLevel() {
        SlantGauges row = Checks.loaded("gauges 2 50000; leg 0 1000 100 0; tube 0 0 10 1000 10; tube 0 1 1 1000 10;");
        Checks.due("both are whole", row.size(3), 2);
        Checks.due("both break", row.setPressure(0, 0), 2);
        Checks.due("blown", row.tube(0, 6), 2);
        Checks.due("sucked", row.tube(1, 6), 1);
        levelAndRest(row, -1000, 0);
        Checks.due("lost by the blown one alone", row.account(0, 2), 100000L);
        SlantGauges twelve = Checks.loaded("gauges 2 50000;" + tubes(12, "tube 0 0 1 1000 10;"));
        Checks.due("twelve at once", twelve.setPressure(0, 0), 12);
        Checks.due("lost by all", twelve.account(0, 2), 12000L);
    }

    private static void legsSettleEachByItself() {
        SlantGauges row = Checks.loaded("gauges 2 50000; leg 0 1000 100 0; leg 1 1000 100 0; tube 0 0 10 1000 10;"
                + "tube 1 1 1 1000 10;");
        Checks.due("one breaks", row.setPressure(0, 0), 1);
        Checks.due("the one in the other leg stays", row.tube(1, 6), 0);
        Checks.due("the other level", row.leg(1, 3), 0);
        Checks.due("the other stock", row.account(1, 0), 0L);
        Checks.due("nothing is lost there", row.account(1, 2), 0L);
    }

    private static void brokenTubesHaveNoColumn() {
        SlantGauges row = Checks.loaded(WIDE + "tube 0 0 1 1000 10 mark -9999; tube 0 1 1 1000 10 mark 9999;"
                + "pressure 0 0; pressure 1 99999;");
        int[] marks = {-9999, 9999};
        for (int tube = 0; tube < 2; tube++) {
            Checks.due("column", row.tube(tube, 7), 0);
            Checks.due("reading", row.tube(tube, 8), marks[tube]);
            Checks.due("state", row.tube(tube, 6), 2 - tube);
        }
        Checks.due("volumes", row.account(0, 1), 0L);
        row.setPressure(0, 49000);
        row.setPressure(1, 49000);
        Checks.due("they stay broken", row.size(3), 0);
        Checks.due("volumes", row.account(0, 1), 0L);
    }

    /** The run -1010 leaves no volume below 0, which would raise the level and blow the tube 1 over at -2 already. */
    private static void emptyColumnsCountForTheLevel() {
        SlantGauges row = Checks.loaded("gauges 2 50000; leg 0 1000 100 0; tube 0 0 20 1000 2000; tube 0 1 1 1000 10;"
                + "pressure 0 51000; pressure 1 48997;");
        Checks.due("sucked", row.tube(0, 6), 1);
        Checks.due("whole", row.tube(1, 6), 0);
        Checks.due("column", row.tube(1, 7), 993);
        levelAndRest(row, -10, 7);
    }

    /** The run 5999 holds no more volume than 1000 does, which would sink the level and suck the tube 1 at -4006 already. */
    private static void fullColumnsCountForTheLevel() {
        SlantGauges row = Checks.loaded("gauges 2 50000; leg 0 1000 100 0; tube 0 0 20 1000 10; tube 0 1 1 1000 10;"
                + "pressure 0 40000; pressure 1 45995;");
        Checks.due("blown", row.tube(0, 6), 2);
        Checks.due("whole", row.tube(1, 6), 0);
        Checks.due("column", row.tube(1, 7), 4);
        Checks.due("lost", row.account(0, 2), 400000L);
        levelAndRest(row, -4001, 96);
    }

    private static void brokenTubesHavePullsAndMenisci() {
        SlantGauges row = Checks.loaded(WIDE + "tube 0 0 2 1000 10; tube 0 1 3 1000 10; pressure 0 0; pressure 1 99999;");
        Checks.due("pull of a blown one", row.tube(0, 9), 50000);
        Checks.due("pull of a sucked one", row.tube(1, 9), -49999);
        row.setPressure(0, 60000);
        row.setPressure(1, 40000);
        row.setCurve(0, -31);
        Checks.due("both are still broken", row.size(3), 0);
        Checks.due("pull of a blown one", row.tube(0, 9), -10000);
        Checks.due("pull of a sucked one", row.tube(1, 9), 10000);
        Checks.due("meniscus of a blown one", row.tube(0, 10), -15);
        Checks.due("meniscus of a sucked one", row.tube(1, 10), -10);
        row.setReference(0);
        Checks.due("pull by another REFERENCE", row.tube(0, 9), -60000);
    }

    // ---- section 4 ----

    private static void readingsAreCut() {
        int[] marks = {0, 5, -1, 9999, -9999};
        for (int mark : marks) {
            int[] columns = {0, 1, 9, 10, 19, 20, 1000};
            for (int column : columns) {
                SlantGauges row = Checks.loaded(WIDE + "tube 0 0 1 1000 10 mark " + mark + "; pressure 0 " + (49999 - column) + ";");
                Checks.due("column", row.tube(0, 7), column);
                Checks.due("reading", row.tube(0, 8), column / 10 + mark);
            }
        }
    }

    /** Level 5 and pull -4: the column is 1, the rise is -4, and -4.4 is cut off to -4. */
    private static void toldByARiseBelowZero() {
        SlantGauges row = Checks.loaded("gauges 2 50000; leg 0 1100 100 0; tube 0 0 1 1000 10;");
        row.refill(0, 501);
        Checks.due("nothing breaks", row.setPressure(0, 50005), 0);
        levelAndRest(row, 5, 0);
        Checks.due("column", row.tube(0, 7), 1);
        Checks.due("told", row.told(0), 50004);
        Checks.due("off", row.off(0), -1);
    }

    /** Level -1 and pull 1: the column is 0, the rise is 1, and 1.5 is cut off to 1. */
    private static void toldByARiseAboveZero() {
        SlantGauges row = Checks.loaded("gauges 2 50000; leg 0 1500 99999 0; tube 0 0 1 1000 10; pressure 0 49998;");
        Checks.due("level", row.leg(0, 3), -1);
        Checks.due("column", row.tube(0, 7), 0);
        Checks.due("told", row.told(0), 49999);
        Checks.due("off", row.off(0), 1);
    }

    /** By the slant 300 and the density 13600: 3343 stand 1002 high, and 999 times 13.6 is cut off to 13586. */
    private static void toldByALongColumn() {
        String text = "gauges 2 50000; leg 0 13600 99999 70; tube 0 0 10 300 90; tube 0 1 10 300 90; pressure 0 36400;";
        SlantGauges row = Checks.loaded(text + "pressure 1 49000;");
        Checks.due("level", row.leg(0, 3), -4);
        Checks.due("column", row.tube(0, 7), 3343);
        Checks.due("told", row.told(0), 36414);
        // 73 - 4 + 7 = 76 is 253 long and stands 75 high: 927 times 13.6 apart.
        Checks.due("column", row.tube(1, 7), 253);
        Checks.due("difference", row.difference(0, 1), -12607);
        Checks.due("difference", row.difference(1, 0), 12607);
    }

    private static void toldWithAMeniscus() {
        SlantGauges row = Checks.loaded("gauges 2 50000; leg 0 1000 99999 39; tube 0 0 10 1000 10;");
        Checks.due("level", row.leg(0, 3), -1);
        Checks.due("column", row.tube(0, 7), 2);
        Checks.due("told", row.told(0), 50000);
        // A column of 7 by the slant 300 stands 2.1 high, which is cut off to 2.
        SlantGauges slanted = Checks.loaded("gauges 2 50000; leg 0 1000 99999 39; tube 0 0 10 300 10;");
        Checks.due("column", slanted.tube(0, 7), 6);
        Checks.due("told", slanted.told(0), 50000 - (1 + 1 - 3));
    }

    private static void hiddenIsWhatIsNotWhole() {
        SlantGauges row = Checks.loaded(WIDE + "tube 0 0 1 1000 10; tube 0 1 1 1000 10; tube 0 2 1 1000 10;"
                + "pressure 0 49500; pressure 1 50001; pressure 2 48000;");
        for (int tube = 0; tube < 3; tube++) {
            boolean whole = tube == 0;
            Checks.due("state", row.tube(tube, 6), tube);
            Checks.due("told", row.told(tube) == HIDDEN, !whole);
            Checks.due("off", row.off(tube) == HIDDEN, !whole);
            Checks.due("room", row.room(tube) == -1, !whole);
            for (int other = 0; other < 3; other++) {
                Checks.due("difference", row.difference(tube, other), tube == 0 && other == 0 ? 0 : HIDDEN);
            }
        }
    }

    /** Level 9, columns 10 and 9: by the density 1500 they are 1.5 apart. */
    private static void differencesAreCutTowardZero() {
        SlantGauges row = Checks.loaded("gauges 2 50000; leg 0 1500 99999 0; tube 0 0 1 1000 10; tube 0 1 1 1000 10;");
        row.refill(0, 999990);
        row.setPressure(0, 49998);
        Checks.due("level", row.leg(0, 3), 9);
        Checks.due("column", row.tube(0, 7), 10);
        Checks.due("column", row.tube(1, 7), 9);
        Checks.due("below 0", row.difference(0, 1), -1);
        Checks.due("above 0", row.difference(1, 0), 1);
        // Menisci 1 and 3, level -1, columns 0 and 2: their heights less the menisci are alike.
        SlantGauges curved = Checks.loaded("gauges 2 50000; leg 0 1000 99999 15; tube 0 0 10 1000 10; tube 0 0 5 1000 10;");
        Checks.due("column", curved.tube(0, 7), 0);
        Checks.due("column", curved.tube(1, 7), 2);
        Checks.due("less the one meniscus, plus the other", curved.difference(0, 1), 0);
    }

    private static void differencesOfTwoLegs() {
        // Leg 0 tells 49998 as 49999 (see above), leg 1 tells 50000 as it is.
        SlantGauges row = Checks.loaded("gauges 2 50000; leg 0 1500 99999 0; tube 0 0 1 1000 10; tube 1 1 1 1000 10;"
                + "pressure 0 49998;");
        Checks.due("what the first one tells less what the second one tells", row.difference(0, 1), -1);
        Checks.due("the other way", row.difference(1, 0), 1);
    }

    /** By the density 2000 of leg 1, not by that of leg 0. */
    private static void differencesByTheirOwnDensity() {
        SlantGauges row = Checks.loaded("gauges 2 50000; leg 1 2000 99999 0; tube 1 0 1 1000 90; tube 1 1 1 1000 90;"
                + "pressure 0 49000; pressure 1 48000;");
        Checks.due("column", row.tube(0, 7), 499);
        Checks.due("column", row.tube(1, 7), 999);
        Checks.due("what is more at the first one", row.difference(0, 1), 1000);
        Checks.due("the other way", row.difference(1, 0), -1000);
    }

    /** The heights 1.8 and 3 are cut off to 1 and 3 ahead of the subtraction, which would leave 1.2. */
    private static void eachHeightOfADifferenceIsCut() {
        SlantGauges row = Checks.loaded(WIDE + "tube 0 0 1 300 10; tube 0 1 1 1000 10; pressure 0 49997; pressure 1 49996;");
        Checks.due("column", row.tube(0, 7), 6);
        Checks.due("column", row.tube(1, 7), 3);
        Checks.due("difference", row.difference(0, 1), 2);
        Checks.due("the other way", row.difference(1, 0), -2);
    }

    private static void aDifferenceWithItself() {
        SlantGauges row = Checks.loaded(WIDE + "tube 0 0 1 1000 10; tube 1 1 1 1000 10; pressure 0 49500; pressure 1 50001;");
        Checks.due("of a whole one", row.difference(0, 0), 0);
        Checks.due("of a sucked one", row.difference(1, 1), HIDDEN);
    }

    // ---- the ring ----

    // By the density 700 the differences 7, 8 and 9 of the pressures pull 10, 11 and 12.
    private static final String RING = "gauges 4 50000; leg 0 700 99999 0; pressure 0 49993; pressure 1 49992;"
            + "pressure 2 49991; pressure 3 50001;";

    private static void ring(String tubes, int due) {
        Checks.due("ring of " + tubes, Checks.loaded(RING + tubes).ring(), due);
    }

    private static String at(int... points) {
        StringBuilder text = new StringBuilder();
        for (int point : points) {
            text.append("tube 0 ").append(point).append(" 1 1000 10;");
        }
        return text.toString();
    }

    private static void ringOfFewerThanTwo() {
        Checks.due("ring of a new row", new SlantGauges().ring(), 0);
        ring("", 0);
        ring(at(0), 0);
        ring(at(3), 0);
        ring(at(3, 0), 0);
        ring(at(0, 3), 0);
        ring(at(3, 3, 3), 0);
        ring(tubes(12, at(3)), 0);
    }

    private static void ringOfTwo() {
        ring(at(0, 1), 0);
        ring(at(2, 0), 0);
        ring(at(0, 2) + "tube 1 3 1 1000 10;", 0);
    }

    /** The columns are 9, 10 and 11: twice 0.7 is cut off to 0, but 1.4 the other way only to 1. */
    private static void ringOfThree() {
        ring(at(0, 1, 2), -1);
        ring(at(2, 1, 0), 1);
        ring(at(1, 2, 0), -1);
        ring(at(0, 0, 1, 1, 2, 2), -1);
        ring(tubes(4, at(0, 1, 2)), -4);
    }

    private static void ringPassesOverBrokenOnes() {
        ring(at(3, 0, 1, 2), -1);
        ring(at(0, 3, 1, 2), -1);
        ring(at(0, 1, 3, 2), -1);
        ring(at(0, 1, 2, 3), -1);
        ring(at(3, 3, 2, 3, 1, 3, 3, 0, 3), 1);
        SlantGauges row = Checks.loaded(RING + at(0, 1, 2));
        row.refill(0, 99999);
        Checks.due("a level of 0", row.leg(0, 3), 0);
        Checks.due("ring", row.ring(), -1);
    }

    /** By the density 700 the tubes of leg 0 tell what is cut off, the one of leg 1 tells its pressure as it is. */
    private static void ringOverTwoLegs() {
        SlantGauges row = Checks.loaded(RING + at(0) + "tube 1 2 1 1000 10;" + at(1));
        int[] told = {49993, 49991, 49993};
        for (int tube = 0; tube < 3; tube++) {
            Checks.due("told", row.told(tube), told[tube]);
        }
        Checks.due("in one leg", row.difference(2, 0), 0);
        Checks.due("ring", row.ring(), 0);
        SlantGauges far = Checks.loaded(RING + at(0) + "tube 1 1 1 1000 10;" + at(2));
        // They tell 49993, 49992 and 49992; in one leg the columns 9 and 11 are 1.4 apart, which is cut off to 1.
        Checks.due("first to second", far.difference(0, 1), 1);
        Checks.due("second to third", far.difference(1, 2), 0);
        Checks.due("third to first", far.difference(2, 0), -1);
        Checks.due("ring", far.ring(), 0);
    }

    // ---- room, longest, worst, agree ----

    private static void roomFromFullToEmpty() {
        String tube = WIDE + "tube 0 0 1 1000 10; pressure 0 ";
        Checks.due("empty", Checks.loaded(tube + "50000;").room(0), 1000);
        Checks.due("nearly full", Checks.loaded(tube + "49000;").room(0), 1);
        Checks.due("full", Checks.loaded(tube + "48999;").room(0), 0);
        Checks.due("blown", Checks.loaded(tube + "48998;").room(0), -1);
        Checks.due("sucked", Checks.loaded(tube + "50001;").room(0), -1);
        Checks.due("the longest", Checks.loaded("gauges 2 50000; tube 0 0 1 50 2000;").room(0), 200000);
    }

    private static void longest(String tubes, int due) {
        Checks.due("longest of " + tubes, Checks.loaded(RING + tubes).longest(), due);
    }

    private static void longestOfNoneOneAndSeveral() {
        Checks.due("of none", new SlantGauges().longest(), -1);
        longest(at(3), -1);
        longest(tubes(12, at(3)), -1);
        longest(at(0), 0);
        longest(at(3, 0), 1);
        longest(at(1, 1), 0);
        longest(at(0, 1, 1), 1);
        longest(at(1, 0, 1), 0);
        longest(at(0, 1, 2), 2);
        longest(tubes(11, at(1)) + at(2), 11);
        longest(tubes(12, at(1)), 0);
        longest("tube 1 3 1 1000 10; tube 0 0 1 500 90; tube 0 2 1 1000 90;", 1);
        Checks.due("empty columns", Checks.loaded(WIDE + at(0, 0) + "pressure 1 50001;").longest(), 0);
        Checks.due("an empty one behind a sucked one", Checks.loaded(WIDE + at(1, 0) + "pressure 1 50001;").longest(), 1);
    }

    // By the density 20000 all tell 50000 as long as the pull is cut off to 0.
    private static final String HEAVY = "gauges 5 50000; leg 0 20000 99999 0; leg 1 1000 99999 0; pressure 1 49981;"
            + "pressure 2 50019; pressure 3 50020; pressure 4 49990;";

    private static void worst(String tubes, int due) {
        Checks.due("worst of " + tubes, Checks.loaded(HEAVY + tubes).worst(), due);
    }

    private static void worstOfNoneOneAndSeveral() {
        Checks.due("of none", new SlantGauges().worst(), -1);
        worst(at(3), -1);
        worst(tubes(12, at(3)), -1);
        worst(at(0), 0);
        worst(at(3, 0), 1);
        worst(at(0, 0), 0);
        worst(at(1, 2), 0);
        worst(at(2, 1), 0);
        worst(at(4, 2, 1), 1);
        worst(at(0, 4, 2), 2);
        worst(at(4, 0, 1, 2), 2);
        worst(tubes(11, at(4)) + at(2), 11);
        worst(tubes(11, at(4)) + at(1), 11);
        worst(at(3, 2, 1, 3), 1);
    }

    private static void agreeAtItsUnits() {
        // At the point 4 the one in leg 0 tells 50000, the one in leg 1 tells 49990.
        SlantGauges row = Checks.loaded(HEAVY + at(4) + "tube 1 4 1 1000 10;" + at(1));
        Checks.due("told", row.told(0), 50000);
        Checks.due("told", row.told(1), 49990);
        Checks.due("by 10", row.agree(4, 10), true);
        Checks.due("by 9", row.agree(4, 9), false);
        Checks.due("by 0", row.agree(4, 0), false);
        Checks.due("by 99999", row.agree(4, 99999), true);
        SlantGauges turned = Checks.loaded(HEAVY + "tube 1 4 1 1000 10;" + at(4) + at(4));
        Checks.due("the other way by 10", turned.agree(4, 10), true);
        Checks.due("the other way by 9", turned.agree(4, 9), false);
    }

    private static void agreeOfNoneAndOne() {
        Checks.due("none", new SlantGauges().agree(0, 0), true);
        SlantGauges row = Checks.loaded(HEAVY + at(4, 3, 3) + "tube 1 1 1 1000 10;");
        Checks.due("one", row.agree(4, 0), true);
        Checks.due("two that are sucked", row.agree(3, 0), true);
        Checks.due("another point", row.agree(1, 0), true);
        Checks.due("a point without tubes", row.agree(0, 0), true);
        SlantGauges sucked = Checks.loaded(HEAVY + "tube 0 2 1 1000 10; tube 1 2 1 1000 10;");
        Checks.due("the second one is sucked", sucked.tube(1, 6), 1);
        Checks.due("one beside a sucked one", sucked.agree(2, 0), true);
    }

    /** Whole tubes beside blown ones or a sucked one at the same point, which would tell other pressures. */
    private static void agreeOfWholeOnesAlone() {
        SlantGauges row = Checks.loaded(WIDE + "tube 0 0 1 1000 10; tube 0 0 1 1000 90; tube 0 0 1 50 90; tube 1 0 1 1000 90;"
                + "pressure 0 48000;");
        Checks.due("two are blown", row.size(5), 2);
        Checks.due("the two that are whole agree", row.agree(0, 0), true);
        row = Checks.loaded(WIDE + "leg 0 1000 99999 -500; tube 0 0 1 1000 10; tube 1 0 1 1000 10; pressure 0 49900;");
        Checks.due("one is sucked", row.size(4), 1);
        Checks.due("one that is whole agrees", row.agree(0, 0), true);
    }

    // ---- means and shares ----

    private static void mean(String tubes, double due) {
        Checks.due("mean of " + tubes, Checks.loaded(RING + tubes).meanReading(), (Object) due);
    }

    private static void meanOfNoneOneAndTwelve() {
        Checks.due("of none", new SlantGauges().meanReading(), (Object) 0.0);
        mean(at(3), 0.0);
        mean("tube 0 3 1 1000 10 mark 9999;", 0.0);
        mean(at(0), 0.0);
        mean("tube 0 1 1 1000 10;", 1.0);
        mean("tube 0 0 1 1000 10 mark -7;", -7.0);
        mean(at(3, 0, 1), 1.0 / 2.0);
        mean(at(0, 1, 0), 1.0 / 3.0);
        mean("tube 0 0 1 1000 10 mark -1;" + at(0, 0), -1.0 / 3.0);
        mean("tube 0 0 1 1000 10 mark -5; tube 0 0 1 1000 10 mark 5;", 0.0);
        mean(tubes(12, "tube 0 1 1 1000 10 mark 9999;"), 10000.0);
        mean(tubes(12, "tube 0 0 1 1000 10 mark -9999;"), -9999.0);
        mean(tubes(11, at(0)) + at(1), 1.0 / 12.0);
    }

    private static void share(String tubes, float due) {
        Checks.due("share of " + tubes, Checks.loaded(RING + tubes).wholeShare(), (Object) due);
    }

    private static void shareOfNoneOneAndTwelve() {
        Checks.due("of none", new SlantGauges().wholeShare(), (Object) 0.0f);
        share(at(0), 1.0f);
        share(at(3), 0.0f);
        share(at(0, 3), 0.5f);
        share(at(3, 3, 0), 1.0f / 3.0f);
        share(at(0, 3, 0), 2.0f / 3.0f);
        share(tubes(11, at(0)) + at(3), 11.0f / 12.0f);
        share(tubes(12, at(0)), 1.0f);
        share(tubes(12, at(3)), 0.0f);
    }

    // ---- accounts ----

    private static void accountsAtTheirEnds() {
        SlantGauges row = Checks.loaded("gauges 2 50000; leg 0 1000 100 0; leg 1 1000 99999 0;");
        for (int leg = 0; leg < 2; leg++) {
            for (int k = 0; k < 20; k++) {
                row.refill(leg, 99999999);
            }
            row.refill(leg, 20);
            Checks.due("stock", row.account(leg, 0), 2000000000L);
            Checks.due("volumes", row.account(leg, 1), 0L);
            Checks.due("lost", row.account(leg, 2), 0L);
            Checks.due("filled in", row.account(leg, 3), 2000000000L);
        }
        Checks.due("the highest level", row.leg(0, 3), 20000000);
        Checks.due("its rest", row.account(0, 4), 0L);
        Checks.due("in the widest leg", row.leg(1, 3), 20000);
        Checks.due("its rest", row.account(1, 4), 20000L);
        Checks.due("a tube is blown", row.addTube(0, 0, 1, 1000, 2000), 0);
        Checks.due("by that level", row.tube(0, 6), 2);
        Checks.due("with its volume", row.account(0, 0), 1999800000L);
    }

    private static void accountsBeyondAnInt() {
        SlantGauges row = Checks.loaded("gauges 2 99999; leg 0 100 99999 0; tube 0 0 20 50 2000; pressure 0 0;");
        for (int k = 0; k < 100; k++) {
            Checks.due("mend", row.mend(0), 2);
        }
        Checks.due("lost", row.account(0, 2), 8080000000L);
        Checks.due("stock", row.account(0, 0), -8080000000L);
        levelAndRest(row, -80801, 19199L);
    }
}

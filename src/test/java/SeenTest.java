/** Promises 5 to 17, 23 and 24: what is seen of a row, and sections 2 and 4 of the document. */
public final class SeenTest {
    // Leg 0: 10000 L + 100 * 2 (L + 1000) + 25 * 2 (L + 500) is at most 0 up to L = -22.
    private static final String TWO_LEGS = "gauges 4 50000; tube 0 0 10 500 90 mark 5; tube 0 1 5 500 80;"
            + "tube 1 2 4 250 100; tube 0 3 1 1000 50 mark -9; tube 1 3 2 900 60; leg 1 1000 10000 30;"
            + "pressure 0 49000; pressure 1 49500; pressure 3 50100;";
    // Leg 0: 99999 L + L + 1001 is at most 0 up to L = -1, so the run is the pull less 1.
    private static final String WIDE = "gauges 2 50000; leg 0 1000 99999 0; tube 0 0 1 1000 10;";

    public static void main(String[] args) {
        sizes();
        pressures();
        legs();
        accounts();
        tubes();
        menisci();
        levels();
        toldAndOff();
        differences();
        rings();
        rooms();
        longest();
        worst();
        agreeing();
        means();
        shares();
        Checks.end();
    }

    private static void sizes() {
        SlantGauges row = Checks.loaded(TWO_LEGS);
        row.setPressure(1, 0);
        int[] sizes = {4, 50000, 5, 2, 2, 1, 3, 2};
        for (int what = 0; what < sizes.length; what++) {
            Checks.due("size " + what, row.size(what), sizes[what]);
        }
        for (int what : new int[] {-1, 8, Integer.MIN_VALUE, Integer.MAX_VALUE}) {
            Checks.refused(row, "size(" + what + ")", "NoSuchElementException", () -> row.size(what));
        }
    }

    private static void pressures() {
        SlantGauges row = Checks.loaded(TWO_LEGS);
        int[] pressures = {49000, 49500, 50000, 50100};
        for (int point = 0; point < 4; point++) {
            Checks.due("pressure", row.pressure(point), pressures[point]);
        }
        for (int point : new int[] {-1, 4, 8, Integer.MAX_VALUE, Integer.MIN_VALUE}) {
            Checks.refused(row, "pressure(" + point + ")", "NoSuchElementException", () -> row.pressure(point));
        }
    }

    private static void legs() {
        SlantGauges row = Checks.loaded("gauges 2 50000; leg 0 800 700 -60; leg 1 13600 5000 99;");
        int[] numbers = {800, 700, -60, 0, 13600, 5000, 99, 0};
        for (int k = 0; k < 8; k++) {
            Checks.due("leg", row.leg(k / 4, k % 4), numbers[k]);
        }
        row.refill(0, 1399);
        row.refill(1, 5000);
        Checks.due("level 0", row.leg(0, 3), 1);
        Checks.due("level 1", row.leg(1, 3), 1);
        int[][] wrong = {{-1, 0}, {2, 0}, {0, -1}, {0, 4}, {1, 4}, {Integer.MAX_VALUE, 0}, {0, Integer.MIN_VALUE}};
        for (int[] at : wrong) {
            Checks.refused(row, "leg", "NoSuchElementException", () -> row.leg(at[0], at[1]));
        }
    }

    private static void accounts() {
        SlantGauges row = Checks.loaded(TWO_LEGS);
        long[] settled = {0, 219500, 0, 0, 500};
        for (int what = 0; what < settled.length; what++) {
            Checks.due("account 0 " + what, row.account(0, what), settled[what]);
        }
        // 8000 * 25 are lost by the tube 1; 10200 L + 200000 is at most 300000 - 200000 up to L = -10.
        row.refill(0, 300000);
        row.setPressure(1, 40000);
        long[] blown = {100000, 198000, 200000, 300000, 2000};
        for (int what = 0; what < blown.length; what++) {
            Checks.due("account 0 " + what, row.account(0, what), blown[what]);
        }
        Checks.due("nothing was refilled in the other leg", row.account(1, 3), 0L);
        Checks.due("nothing was lost in the other leg", row.account(1, 2), 0L);
        int[][] wrong = {{-1, 0}, {2, 0}, {0, -1}, {0, 5}, {1, 5}};
        for (int[] at : wrong) {
            Checks.refused(row, "account", "NoSuchElementException", () -> row.account(at[0], at[1]));
        }
    }

    private static void tubes() {
        SlantGauges row = Checks.loaded(TWO_LEGS);
        int[][] due = {
            {0, 0, 10, 500, 90, 5, 0, 1956, 200, 1000, 0},
            {0, 1, 5, 500, 80, 0, 0, 956, 95, 500, 0},
            {1, 2, 4, 250, 100, 0, 0, 24, 2, 0, 7},
            {0, 3, 1, 1000, 50, -9, 1, 0, -9, -100, 0},
            {1, 3, 2, 900, 60, 0, 1, 0, 0, -100, 15}};
        for (int tube = 0; tube < due.length; tube++) {
            for (int what = 0; what <= 10; what++) {
                Checks.due("tube " + tube + " " + what, row.tube(tube, what), due[tube][what]);
            }
        }
        row.setPressure(0, 0);
        Checks.due("blown", row.tube(0, 6), 2);
        Checks.due("its column", row.tube(0, 7), 0);
        Checks.due("its reading", row.tube(0, 8), 5);
        Checks.due("its pull", row.tube(0, 9), 50000);
        int[][] wrong = {{-1, 0}, {5, 0}, {12, 0}, {0, -1}, {0, 11}, {0, 12}, {Integer.MIN_VALUE, 0}};
        for (int[] at : wrong) {
            Checks.refused(row, "tube", "NoSuchElementException", () -> row.tube(at[0], at[1]));
        }
        Checks.noSuch("a tube of a new row", () -> new SlantGauges().tube(0, 0));
    }

    private static void menisci() {
        SlantGauges row = Checks.loaded("gauges 2 50000; leg 0 1000 10000 -50; leg 1 900 10000 50;"
                + "tube 0 0 3 500 90; tube 0 0 20 500 90; tube 1 0 3 500 90; tube 1 0 20 500 90; pressure 0 49000;");
        int[] menisci = {-16, -2, 16, 2};
        int[] pulls = {1000, 1000, 1111, 1111};
        for (int tube = 0; tube < 4; tube++) {
            Checks.due("meniscus", row.tube(tube, 10), menisci[tube]);
            Checks.due("pull", row.tube(tube, 9), pulls[tube]);
        }
        row.setPressure(0, 51000);
        Checks.due("a pull below 0 is cut off toward 0", row.tube(2, 9), -1111);
    }

    private static void levels() {
        SlantGauges row = Checks.loaded(WIDE);
        Checks.due("level", row.leg(0, 3), 0);
        row.setPressure(0, 49900);
        Checks.due("the level sinks", row.leg(0, 3), -1);
        Checks.due("the column rises", row.tube(0, 7), 99);
        Checks.due("what is not filled", row.account(0, 4), 99999L - 99L);
        row.setPressure(0, 48999);
        Checks.due("a run of 100 times the length", row.tube(0, 7), 1000);
        Checks.due("is whole", row.tube(0, 6), 0);
        row.setPressure(0, 48998);
        Checks.due("a run of more is blown", row.tube(0, 6), 2);
        Checks.due("the stock below 0", row.account(0, 0), -1000L);
        Checks.due("its level is not cut off toward 0", row.leg(0, 3), -1);
        SlantGauges edge = Checks.loaded(WIDE);
        Checks.due("a run of 0 is whole", edge.tube(0, 6), 0);
        edge.setPressure(0, 50001);
        Checks.due("a run below 0 is sucked", edge.tube(0, 6), 1);
        Checks.due("nothing is lost", edge.account(0, 2), 0L);
    }

    private static void toldAndOff() {
        SlantGauges row = Checks.loaded(TWO_LEGS);
        int[] told = {49000, 49500, 50000, SlantGauges.HIDDEN, SlantGauges.HIDDEN};
        int[] off = {0, 0, 0, SlantGauges.HIDDEN, SlantGauges.HIDDEN};
        for (int tube = 0; tube < told.length; tube++) {
            Checks.due("told", row.told(tube), told[tube]);
            Checks.due("off", row.off(tube), off[tube]);
        }
        // The column stands 1002 high: 1002 + 4 - 7 = 999, and 999 * 13600 / 1000 = 13586.
        SlantGauges heavy = Checks.loaded("gauges 2 50000; leg 0 13600 99999 70; tube 0 0 10 300 90; pressure 0 36400;");
        Checks.due("column", heavy.tube(0, 7), 3343);
        Checks.due("level", heavy.leg(0, 3), -4);
        Checks.due("told", heavy.told(0), 36414);
        Checks.due("off", heavy.off(0), 14);
        for (int tube : new int[] {-1, 5, 12, Integer.MAX_VALUE}) {
            Checks.refused(row, "told", "NoSuchElementException", () -> row.told(tube));
            Checks.refused(row, "off", "NoSuchElementException", () -> row.off(tube));
        }
    }

    private static void differences() {
        SlantGauges row = Checks.loaded(TWO_LEGS);
        Checks.due("in one leg", row.difference(0, 1), -500);
        Checks.due("the other way", row.difference(1, 0), 500);
        Checks.due("in two legs", row.difference(0, 2), -1000);
        Checks.due("in two legs, the other way", row.difference(2, 0), 1000);
        Checks.due("of a tube and itself", row.difference(1, 1), 0);
        Checks.due("with a sucked one", row.difference(0, 3), SlantGauges.HIDDEN);
        Checks.due("with a sucked one first", row.difference(3, 0), SlantGauges.HIDDEN);
        Checks.due("of a sucked one and itself", row.difference(3, 3), SlantGauges.HIDDEN);
        int[][] wrong = {{-1, 0}, {0, -1}, {5, 0}, {0, 5}, {3, 12}, {Integer.MIN_VALUE, Integer.MAX_VALUE}};
        for (int[] pair : wrong) {
            Checks.refused(row, "difference", "NoSuchElementException", () -> row.difference(pair[0], pair[1]));
        }
        // Menisci 30 and 3 and the density 2000: (100 - 0 - 3 + 30) * 2 tells more than the columns alone.
        SlantGauges curved = Checks.loaded("gauges 2 50000; leg 0 2000 99999 30; tube 0 0 1 1000 90; tube 0 1 10 1000 90;"
                + "pressure 1 49000;");
        int first = curved.tube(0, 7);
        int second = curved.tube(1, 7);
        Checks.due("with menisci", curved.difference(0, 1), (second - first - 3 + 30) * 2);
        Checks.due("is what the pressure at the first one is more", curved.difference(0, 1), 1000);
    }

    private static void rings() {
        Checks.due("without tubes", new SlantGauges().ring(), 0);
        SlantGauges one = Checks.loaded(WIDE);
        Checks.due("of one", one.ring(), 0);
        // Pulls 666 and 333: 999 and 499 by what they tell, 499 by the difference in one leg.
        SlantGauges three = Checks.loaded("gauges 3 50000; leg 0 1500 99999 0; tube 0 0 1 1000 90; tube 1 1 1 700 90;"
                + "tube 0 2 1 1000 90; pressure 0 49000; pressure 1 49502; pressure 2 49500;");
        Checks.due("first to second", three.difference(0, 1) + three.difference(1, 2), -500);
        Checks.due("third to first", three.difference(2, 0), 499);
        Checks.due("of three", three.ring(), -1);
        SlantGauges two = Checks.loaded("gauges 3 50000; tube 0 1 1 300 90; tube 0 0 1 300 90; tube 1 1 1 700 90;"
                + "pressure 0 60000; pressure 1 49000;");
        Checks.due("over the sucked one", two.size(3), 2);
        Checks.due("of two", two.ring(), two.difference(0, 2) + two.difference(2, 0));
    }

    private static void rooms() {
        SlantGauges row = Checks.loaded(TWO_LEGS);
        int[] rooms = {7044, 7044, 9976, -1, -1};
        for (int tube = 0; tube < rooms.length; tube++) {
            Checks.due("room", row.room(tube), rooms[tube]);
        }
        row.setPressure(0, 0);
        Checks.due("room of a blown one", row.room(0), -1);
        for (int tube : new int[] {-1, 5, 12}) {
            Checks.refused(row, "room", "NoSuchElementException", () -> row.room(tube));
        }
    }

    private static void longest() {
        Checks.due("longest without tubes", new SlantGauges().longest(), -1);
        SlantGauges row = Checks.loaded(TWO_LEGS);
        Checks.due("longest", row.longest(), 0);
        row.setPressure(0, 0);
        Checks.due("longest of the whole ones", row.longest(), 1);
        row.setPressure(1, 0);
        row.setPressure(2, 0);
        Checks.due("longest without whole ones", row.longest(), -1);
        SlantGauges alike = Checks.loaded("gauges 2 50000; tube 0 1 2 500 90; tube 0 0 2 500 90; tube 0 0 2 500 90;"
                + "pressure 0 49000;");
        Checks.due("the smallest of several", alike.longest(), 1);
        SlantGauges empty = Checks.loaded("gauges 2 50000; tube 0 1 2 500 90; tube 1 0 2 500 90;");
        Checks.due("a column of 0 counts", empty.longest(), 0);
    }

    private static void worst() {
        Checks.due("worst without tubes", new SlantGauges().worst(), -1);
        SlantGauges row = Checks.loaded(TWO_LEGS);
        Checks.due("the smallest of several", row.worst(), 0);
        row.setPressure(0, 0);
        Checks.due("of the whole ones", row.worst(), 1);
        row.setPressure(1, 0);
        row.setPressure(2, 0);
        Checks.due("worst without whole ones", row.worst(), -1);
        // The density 20000 cuts off pulls of less than 20, so that all tell 50000.
        SlantGauges cut = Checks.loaded("gauges 4 50000; leg 0 20000 99999 0; tube 0 0 1 1000 90; tube 0 1 1 1000 90;"
                + "tube 0 2 1 1000 90; pressure 0 49990; pressure 1 50019; pressure 2 49981;");
        int[] offs = {10, -19, 19};
        for (int tube = 0; tube < 3; tube++) {
            Checks.due("off", cut.off(tube), offs[tube]);
        }
        Checks.due("by its size, of several the smallest", cut.worst(), 1);
    }

    private static void agreeing() {
        SlantGauges row = Checks.loaded("gauges 3 50000; tube 0 0 2 300 90; tube 0 0 2 500 90; tube 0 1 2 500 90;"
                + "tube 1 0 2 700 20; pressure 0 49001; pressure 1 49500;");
        int least = Math.min(row.told(0), row.told(1));
        int most = Math.max(row.told(0), row.told(1));
        Checks.due("a tube of the other leg is whole", row.size(3), 4);
        least = Math.min(least, row.told(3));
        most = Math.max(most, row.told(3));
        Checks.due("they differ", most > least, true);
        Checks.due("by at most what they differ", row.agree(0, most - least), true);
        Checks.due("by less", row.agree(0, most - least - 1), false);
        SlantGauges ends = Checks.loaded("gauges 2 50000; leg 1 20000 99999 0; tube 0 0 1 1000 90; tube 0 0 1 1000 90;"
                + "tube 1 0 1 1000 90; pressure 0 49990;");
        int apart = Math.abs(ends.told(0) - ends.told(2));
        Checks.due("the last one against the others", ends.agree(0, apart - 1), false);
        Checks.due("the last one against the others", ends.agree(0, apart), true);
        ends.dropTube(1);
        Checks.due("the first one against the last one", ends.agree(0, apart - 1), false);
        Checks.due("one alone", row.agree(1, 0), true);
        Checks.due("none", row.agree(2, 0), true);
        Checks.due("the greatest units", row.agree(0, 99999), true);
        Checks.refused(row, "agree", "NoSuchElementException", () -> row.agree(3, 0));
        Checks.refused(row, "agree", "NoSuchElementException", () -> row.agree(-1, -1));
        Checks.refused(row, "agree", "IllegalArgumentException", () -> row.agree(0, -1));
        Checks.refused(row, "agree", "IllegalArgumentException", () -> row.agree(0, 100000));
    }

    private static void means() {
        Checks.due("without tubes", new SlantGauges().meanReading(), (Object) 0.0);
        SlantGauges row = Checks.loaded(TWO_LEGS);
        Checks.due("the whole ones alone", row.meanReading(), (Object) (297.0 / 3.0));
        row.setPressure(2, 0);
        Checks.due("of two", row.meanReading(), (Object) (295.0 / 2.0));
        row.setPressure(0, 0);
        row.setPressure(1, 0);
        Checks.due("without whole ones", row.meanReading(), (Object) 0.0);
        SlantGauges below = Checks.loaded("gauges 2 50000; tube 0 0 1 500 90 mark -5; tube 1 0 1 500 90 mark -6;"
                + "tube 0 0 1 500 90;");
        Checks.due("below 0", below.meanReading(), (Object) (-11.0 / 3.0));
    }

    private static void shares() {
        Checks.due("without tubes", new SlantGauges().wholeShare(), (Object) 0.0f);
        SlantGauges row = Checks.loaded(TWO_LEGS);
        Checks.due("share", row.wholeShare(), (Object) (3.0f / 5.0f));
        row.setPressure(0, 0);
        row.setPressure(1, 0);
        Checks.due("share", row.wholeShare(), (Object) (1.0f / 5.0f));
        row.setPressure(2, 0);
        Checks.due("none whole", row.wholeShare(), (Object) 0.0f);
        Checks.due("all whole", Checks.loaded(WIDE).wholeShare(), (Object) 1.0f);
    }
}

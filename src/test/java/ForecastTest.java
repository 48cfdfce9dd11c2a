/** Promises 18 to 22: what would break, and that asking changes nothing. */
public final class ForecastTest {
    // The level is -1 while the pull is more than 0, so the run is the pull less 1; more than 1000 is too much.
    private static final String WIDE = "gauges 3 50000; leg 0 1000 99999 0; tube 0 0 1 1000 10 mark 7;";
    // The tube 0 draws the level down to -455; without it the tube 1 would be blown.
    private static final String NARROW = "gauges 2 50000; leg 0 1000 100 0; tube 0 0 10 1000 10; tube 0 1 1 1000 10;"
            + "pressure 0 49100; pressure 1 48700;";

    public static void main(String[] args) {
        wouldBreak();
        readingWith();
        breaksIn();
        bestSlant();
        bestSlantOfSeveral();
        lostWith();
        Checks.end();
    }

    /** Asks without a change, and answers what was answered. */
    private static Object asked(SlantGauges row, Checks.Call call) {
        String before = Checks.wholePicture(row);
        Object answer = Checks.answerOf(call);
        Checks.due("asking changes nothing", Checks.wholePicture(row), before);
        return answer;
    }

    private static void wouldBreak() {
        SlantGauges row = Checks.loaded(WIDE + "tube 0 1 1 1000 10; tube 0 0 1 1000 20; tube 1 0 1 1000 10;"
                + "pressure 0 49998; pressure 1 49990;");
        Checks.due("none", asked(row, () -> row.wouldBreak(0, 49000)), (Object) 0);
        Checks.due("blown in both legs", asked(row, () -> row.wouldBreak(0, 48900)), (Object) 9);
        Checks.due("all at the point", asked(row, () -> row.wouldBreak(0, 40000)), (Object) 13);
        Checks.due("sucked", asked(row, () -> row.wouldBreak(1, 50001)), (Object) 2);
        row.setPressure(0, 48900);
        Checks.due("not those that are blown", asked(row, () -> row.wouldBreak(0, 40000)), (Object) 4);
        Checks.due("a point without tubes", asked(row, () -> row.wouldBreak(2, 0)), (Object) 0);
        SlantGauges narrow = Checks.loaded(NARROW);
        Checks.due("one that stands at another point", asked(narrow, () -> narrow.wouldBreak(0, 49900)), (Object) 2);
        Checks.due("none of a new row", asked(new SlantGauges(), () -> new SlantGauges().wouldBreak(0, 0)), (Object) 0);
        wrongPressures(row, "wouldBreak", (point, pressure) -> row.wouldBreak(point, pressure));
    }

    interface AtPoint {
        Object go(int point, int number);
    }

    private static void wrongPressures(SlantGauges row, String call, AtPoint made) {
        for (int point : new int[] {-1, 3, 8, Integer.MIN_VALUE, Integer.MAX_VALUE}) {
            Checks.refused(row, call, "NoSuchElementException", () -> made.go(point, 50000));
            Checks.refused(row, call, "NoSuchElementException", () -> made.go(point, -1));
        }
        for (int pressure : new int[] {-1, 100000, Integer.MIN_VALUE, Integer.MAX_VALUE}) {
            Checks.refused(row, call, "IllegalArgumentException", () -> made.go(0, pressure));
        }
    }

    private static void readingWith() {
        SlantGauges row = Checks.loaded(WIDE + "tube 0 1 1 1000 10;");
        Checks.due("reading", asked(row, () -> row.readingWith(0, 0, 49489)), (Object) 58);
        Checks.due("at another point", asked(row, () -> row.readingWith(0, 1, 49489)), (Object) 7);
        Checks.due("of a tube that would be blown", asked(row, () -> row.readingWith(0, 0, 40000)), (Object) 7);
        Checks.due("at the pressure 0", asked(row, () -> row.readingWith(1, 0, 0)), (Object) 0);
        row.setPressure(0, 60000);
        Checks.due("of a sucked one", asked(row, () -> row.readingWith(0, 0, 49489)), (Object) 7);
        wrongPressures(row, "readingWith", (point, pressure) -> row.readingWith(0, point, pressure));
        for (int tube : new int[] {-1, 2, 12, Integer.MAX_VALUE}) {
            Checks.refused(row, "readingWith", "NoSuchElementException", () -> row.readingWith(tube, 0, 50000));
            Checks.refused(row, "readingWith", "NoSuchElementException", () -> row.readingWith(tube, 0, -1));
        }
    }

    private static void breaksIn() {
        SlantGauges row = Checks.loaded(WIDE);
        Checks.due("1100 is the first above 1001", asked(row, () -> row.breaksIn(0, -100)), (Object) 11);
        Checks.due("above the reference", asked(row, () -> row.breaksIn(0, 1)), (Object) 1);
        Checks.due("no step", asked(row, () -> row.breaksIn(0, 0)), (Object) (-1));
        Checks.due("a point without tubes", asked(row, () -> row.breaksIn(1, -9999)), (Object) (-1));
        Checks.due("the greatest step", asked(row, () -> row.breaksIn(0, -9999)), (Object) 1);
        SlantGauges sixty = Checks.loaded(WIDE + "pressure 0 49950;");
        Checks.due("in 60 steps", asked(sixty, () -> sixty.breaksIn(0, -16)), (Object) 60);
        SlantGauges more = Checks.loaded(WIDE + "pressure 0 49960;");
        Checks.due("only in 61 steps", asked(more, () -> more.breaksIn(0, -16)), (Object) (-1));
        SlantGauges one = Checks.loaded(WIDE + "pressure 0 49000;");
        Checks.due("by its last unit", asked(one, () -> one.breaksIn(0, -1)), (Object) 2);
        SlantGauges low = Checks.loaded("gauges 2 50000; leg 0 20000 99999 0; tube 0 0 1 1000 26;");
        Checks.due("not below the pressure 0", asked(low, () -> low.breaksIn(0, -9999)), (Object) (-1));
        String clause = "leg 0 1000 99999 0; tube 0 0 1 1000 10; pressure 0 500;";
        SlantGauges whole = Checks.loaded("gauges 2 1001;" + clause);
        Checks.due("full at the pressure 0", asked(whole, () -> whole.breaksIn(0, -400)), (Object) (-1));
        SlantGauges blown = Checks.loaded("gauges 2 1002;" + clause);
        Checks.due("blown at the pressure 0", asked(blown, () -> blown.breaksIn(0, -400)), (Object) 2);
        SlantGauges high = Checks.loaded("gauges 2 50000; leg 0 20000 100 0; tube 0 0 1 1000 60;");
        Checks.due("pulls of less than 20 are cut off", asked(high, () -> high.breaksIn(0, 19)), (Object) 2);
        high.refill(0, 300000);
        Checks.due("not above the pressure 99999", asked(high, () -> high.breaksIn(0, 9999)), (Object) (-1));
        Checks.due("in a new row", asked(new SlantGauges(), () -> new SlantGauges().breaksIn(0, -9999)), (Object) (-1));
        for (int point : new int[] {-1, 3, Integer.MAX_VALUE}) {
            Checks.refused(row, "breaksIn", "NoSuchElementException", () -> row.breaksIn(point, -10000));
        }
        for (int step : new int[] {-10000, 10000, Integer.MIN_VALUE, Integer.MAX_VALUE}) {
            Checks.refused(row, "breaksIn", "IllegalArgumentException", () -> row.breaksIn(0, step));
        }
    }

    private static void bestSlant() {
        SlantGauges row = Checks.loaded(WIDE + "pressure 0 49899;");
        Checks.due("full by the slant 100", asked(row, () -> row.bestSlant(0)), (Object) 100);
        row.setPressure(0, 49898);
        Checks.due("more than full by it", asked(row, () -> row.bestSlant(0)), (Object) 150);
        row.setPressure(0, 49999);
        Checks.due("of several the greatest", asked(row, () -> row.bestSlant(0)), (Object) 1000);
        row.setPressure(0, 49949);
        Checks.due("the least", asked(row, () -> row.bestSlant(0)), (Object) 50);
        row.setPressure(0, 60000);
        Checks.due("of a sucked one", asked(row, () -> row.bestSlant(0)), (Object) (-1));
        row.setPressure(0, 50000);
        row.mend(0);
        row.setPressure(0, 0);
        Checks.due("of a blown one", asked(row, () -> row.bestSlant(0)), (Object) (-1));
        for (int tube : new int[] {-1, 1, 12, Integer.MIN_VALUE}) {
            Checks.refused(row, "bestSlant", "NoSuchElementException", () -> row.bestSlant(tube));
        }
    }

    /** By some slants the tube 0 breaks, by the others the level rises or sinks so far that the tube 1 does. */
    private static void bestSlantOfSeveral() {
        String leg = "gauges 2 50000; leg 0 1000 100 0;";
        bestAsBySetSlant(leg + "tube 0 0 10 820 30; tube 0 1 1 50 10; pressure 0 49100; pressure 1 49505;", 850);
        bestAsBySetSlant(leg + "tube 0 0 3 81 44; tube 0 1 9 600 17; pressure 0 47922; pressure 1 47254;", -1);
        bestAsBySetSlant(leg + "tube 0 0 4 86 61; tube 0 1 6 500 20; pressure 0 48093; pressure 1 47543;", -1);
    }

    private static void bestAsBySetSlant(String text, int want) {
        SlantGauges row = Checks.loaded(text);
        Checks.due("both are whole", row.size(3), 2);
        int due = -1;
        int column = -1;
        for (int slant = 1000; slant >= 50; slant -= 50) {
            if (row.setSlant(0, slant) == 0 && row.tube(0, 7) > column) {
                due = slant;
                column = row.tube(0, 7);
            }
            row.undo();
        }
        Checks.due("by setSlant", due, want);
        Checks.due("bestSlant", asked(row, () -> row.bestSlant(0)), (Object) want);
    }

    private static void lostWith() {
        SlantGauges row = Checks.loaded(WIDE + "tube 0 1 1 1000 10; tube 1 0 1 1000 20; pressure 0 49500;"
                + "pressure 1 49990;");
        Checks.due("none", asked(row, () -> row.lostWith(50000)), (Object) 0);
        Checks.due("a run of 0", asked(row, () -> row.lostWith(49991)), (Object) 0);
        Checks.due("one", asked(row, () -> row.lostWith(49990)), (Object) 1);
        Checks.due("two", asked(row, () -> row.lostWith(51200)), (Object) 2);
        Checks.due("all", asked(row, () -> row.lostWith(99999)), (Object) 3);
        Checks.due("all", asked(row, () -> row.lostWith(0)), (Object) 3);
        row.setReference(51200);
        Checks.due("not those that are blown", asked(row, () -> row.lostWith(0)), (Object) 1);
        for (int reference : new int[] {-1, 100000, Integer.MIN_VALUE, Integer.MAX_VALUE}) {
            Checks.refused(row, "lostWith", "IllegalArgumentException", () -> row.lostWith(reference));
        }
    }
}

/** Promises 25 to 34 at their boundaries, a sentence by a method; the ranges of the arguments stand in RangesTest. */
public final class OperationEdgesTest {
    private static final int HIDDEN = SlantGauges.HIDDEN;
    // As long as a pull is more than 0 the level is -1, and it is 0 without pulls: a pull of 1001 fills the tube.
    private static final String WIDE = "gauges 3 50000; leg 0 1000 99999 0; leg 1 1000 99999 0; ";
    private static final String TUBE = "tube 0 0 1 1000 10;";

    public static void main(String[] args) {
        setPressureOnBothSides();
        setPressureAnswersFromNoneToTwelve();
        setReferenceOnBothSides();
        setReferenceAnswersFromNoneToTwelve();
        sweepInOneAndInFiftySteps();
        sweepGoesByStepsThatAreCut();
        sweepAnswersAllThatBroke();
        sweepToWhereItIs();
        setSlantOnBothSides();
        setSlantOfBrokenOnes();
        setMarkUpToTheEndOfItsRange();
        setMarkOfAnEmptyColumn();
        setMarkOfBrokenOnes();
        setCurveOnBothSides();
        setCurveAtItsEnds();
        mendOnBothSides();
        mendOfAWholeOne();
        mendTakesNothingBack();
        refillOnBothSides();
        refillUpTo2000000000();
        refillIsCountedByLeg();
        refillIsCountedWithoutWhatWasLost();
        refillThatIsUndoneIsNotCounted();
        addTubeUpToTheTwelfth();
        addTubeBehindADroppedOne();
        addTubeAtTheEndsOfItsRanges();
        addTubeThatBreaks();
        dropTubeFromTwelveToNone();
        dropTubeRenumbers();
        dropTubeLeavesTheStock();
        whatIsAlreadySoIsRecorded();
        Checks.end();
    }

    private static void stands(SlantGauges row, int state, int column) {
        Checks.due("state", row.tube(0, 6), state);
        Checks.due("column", row.tube(0, 7), column);
    }

    private static SlantGauges wide(String clauses) {
        return Checks.loaded(WIDE + clauses);
    }

    // ---- setPressure and setReference ----

    private static void setPressureOnBothSides() {
        int[] pressures = {48999, 48998, 50000, 50001, 0, 99999};
        int[] states = {0, 2, 0, 1, 2, 1};
        int[] columns = {1000, 0, 0, 0, 0, 0};
        for (int k = 0; k < pressures.length; k++) {
            SlantGauges row = wide(TUBE);
            Checks.due("setPressure " + pressures[k], row.setPressure(0, pressures[k]), states[k] == 0 ? 0 : 1);
            Checks.due("pressure", row.pressure(0), pressures[k]);
            stands(row, states[k], columns[k]);
            Checks.due("lost", row.account(0, 2), states[k] == 2 ? 1000L : 0L);
        }
    }

    private static void setPressureAnswersFromNoneToTwelve() {
        Checks.due("without tubes", new SlantGauges().setPressure(1, 0), 0);
        Checks.due("a point without tubes", wide(TUBE).setPressure(2, 0), 0);
        Checks.due("twelve", wide(TUBE.repeat(12)).setPressure(0, 0), 12);
        Checks.due("eleven", wide(TUBE.repeat(11) + "tube 1 1 1 1000 10;").setPressure(0, 99999), 11);
        SlantGauges row = wide(TUBE);
        row.setPressure(0, 0);
        Checks.due("not those that are broken", row.setPressure(0, 99999), 0);
    }

    private static void setReferenceOnBothSides() {
        int[] references = {51001, 51002, 50000, 49999, 0, 99999};
        int[] states = {0, 2, 0, 1, 1, 2};
        int[] columns = {1000, 0, 0, 0, 0, 0};
        for (int k = 0; k < references.length; k++) {
            SlantGauges row = wide(TUBE);
            Checks.due("setReference " + references[k], row.setReference(references[k]), states[k] == 0 ? 0 : 1);
            Checks.due("reference", row.size(1), references[k]);
            stands(row, states[k], columns[k]);
        }
    }

    private static void setReferenceAnswersFromNoneToTwelve() {
        Checks.due("without tubes", new SlantGauges().setReference(0), 0);
        Checks.due("twelve", wide(TUBE.repeat(12)).setReference(0), 12);
        Checks.due("in both legs", wide(TUBE + "tube 1 1 1 1000 10;").setReference(99999), 2);
        SlantGauges row = wide(TUBE);
        row.setReference(0);
        Checks.due("not those that are broken", row.setReference(99999), 0);
    }

    // ---- sweep ----

    private static void sweepInOneAndInFiftySteps() {
        for (int steps : new int[] {1, 2, 3, 49, 50}) {
            for (int last : new int[] {0, 99999, 49999, 50001, 50000}) {
                SlantGauges row = new SlantGauges();
                Checks.due("sweep in " + steps, row.sweep(0, last, steps), 0);
                Checks.due("its end", row.pressure(0), last);
                Checks.due("the other point", row.pressure(1), 50000);
                Checks.due("recorded once", row.undoCount(), 1);
                row.undo();
                Checks.due("undone at once", row.pressure(0), 50000);
            }
        }
    }

    /** Upwards and downwards the steps are cut off toward 0, and each of them settles. */
    private static void sweepGoesByStepsThatAreCut() {
        for (int last : new int[] {48999, 48000, 50001, 0, 99999, 47777}) {
            for (int steps = 1; steps <= 50; steps++) {
                SlantGauges swept = wide(TUBE + "tube 0 0 3 500 20; pressure 0 49300;");
                SlantGauges single = wide(TUBE + "tube 0 0 3 500 20; pressure 0 49300;");
                int broken = 0;
                for (int k = 1; k <= steps; k++) {
                    broken += single.setPressure(0, 49300 + (last - 49300) * k / steps);
                }
                Checks.due("sweep to " + last + " in " + steps, swept.sweep(0, last, steps), broken);
                Checks.due("is as its steps", Checks.picture(swept), Checks.picture(single));
            }
        }
    }

    private static void sweepAnswersAllThatBroke() {
        String tubes = TUBE + "tube 0 0 1 1000 20; tube 0 0 1 1000 30; tube 1 0 1 1000 40; tube 1 1 1 1000 10;"
                + "pressure 0 49990; pressure 1 49990;";
        Checks.due("none", wide(tubes).sweep(0, 48999, 50), 0);
        Checks.due("the first one", wide(tubes).sweep(0, 48998, 50), 1);
        Checks.due("two", wide(tubes).sweep(0, 47998, 50), 2);
        Checks.due("all four", wide(tubes).sweep(0, 0, 50), 4);
        Checks.due("all four in one step", wide(tubes).sweep(0, 0, 1), 4);
        Checks.due("sucked by the first step", wide(tubes).sweep(0, 50050, 50), 4);
        Checks.due("twelve", wide(TUBE.repeat(12)).sweep(0, 0, 7), 12);
    }

    private static void sweepToWhereItIs() {
        SlantGauges row = wide(TUBE + "pressure 0 49500;");
        String before = Checks.picture(row);
        Checks.due("sweep", row.sweep(0, 49500, 50), 0);
        Checks.due("nothing changes", Checks.picture(row), before);
        Checks.due("but it is recorded", row.undoCount(), 1);
    }

    // ---- setSlant, setMark, setCurve ----

    private static void setSlantOnBothSides() {
        SlantGauges row = wide(TUBE + "pressure 0 49899;");
        Checks.due("a full column", row.setSlant(0, 100), 0);
        stands(row, 0, 1000);
        Checks.due("more than that", row.setSlant(0, 99), 1);
        stands(row, 2, 0);
        SlantGauges ends = wide("tube 0 0 1 500 2000; pressure 0 49899;");
        Checks.due("the least", ends.setSlant(0, 50), 0);
        stands(ends, 0, 2000);
        Checks.due("the greatest", ends.setSlant(0, 1000), 0);
        stands(ends, 0, 100);
        Checks.due("slant", ends.tube(0, 3), 1000);
    }

    private static void setSlantOfBrokenOnes() {
        for (int pressure : new int[] {0, 99999}) {
            SlantGauges row = wide(TUBE + "pressure 0 " + pressure + ";");
            int state = row.tube(0, 6);
            Checks.due("broken", state > 0, true);
            Checks.due("setSlant", row.setSlant(0, 50), 0);
            Checks.due("slant", row.tube(0, 3), 50);
            stands(row, state, 0);
        }
    }

    private static SlantGauges longColumn(int column) {
        SlantGauges row = wide("tube 0 0 1 1000 2000;");
        row.setReference(99999);
        // From 99999 units on they draw the level to -2.
        row.setPressure(0, 99999 - column - (column < 99999 ? 1 : 2));
        Checks.due("column", row.tube(0, 7), column);
        return row;
    }

    private static void setMarkUpToTheEndOfItsRange() {
        SlantGauges row = longColumnOf99990();
        Checks.due("setMark", row.setMark(0), -9999);
        Checks.due("mark", row.tube(0, 5), -9999);
        Checks.due("reading", row.tube(0, 8), 0);
        Checks.unchanged("setMark beyond its range", () -> longColumnOf100000(), HIDDEN - 1, other -> other.setMark(0));
    }

    private static SlantGauges longColumnOf99990() {
        SlantGauges row = longColumn(0);
        row.setSlant(0, 100);
        row.setPressure(0, 99999 - 10000);
        Checks.due("column", row.tube(0, 7), 99990);
        return row;
    }

    private static SlantGauges longColumnOf100000() {
        SlantGauges row = longColumn(0);
        row.setSlant(0, 100);
        row.setPressure(0, 99999 - 10002);
        Checks.due("column", row.tube(0, 7), 100000);
        return row;
    }

    private static void setMarkOfAnEmptyColumn() {
        int[] columns = {0, 1, 9, 10, 19, 20, 1000};
        int[] marks = {0, 0, 0, -1, -1, -2, -100};
        for (int k = 0; k < columns.length; k++) {
            SlantGauges row = longColumn(columns[k]);
            int kept = row.undoCount();
            Checks.due("setMark", row.setMark(0), marks[k]);
            Checks.due("reading", row.tube(0, 8), 0);
            Checks.due("is recorded", row.undoCount(), kept + 1);
            Checks.due("setMark again", row.setMark(0), marks[k]);
            Checks.due("is recorded again", row.undoCount(), kept + 2);
        }
    }

    private static void setMarkOfBrokenOnes() {
        Checks.Maker sucked = () -> wide("tube 0 0 1 1000 10 mark 5; pressure 0 50001;");
        Checks.Maker blown = () -> wide("tube 0 0 1 1000 10 mark 5; pressure 0 0;");
        Checks.unchanged("setMark of a sucked one", sucked, HIDDEN, row -> row.setMark(0));
        Checks.unchanged("setMark of a blown one", blown, HIDDEN, row -> row.setMark(0));
    }

    private static void setCurveOnBothSides() {
        // By bore 20 a curve of -19 is no meniscus and one of -20 is -1.
        SlantGauges row = wide("tube 0 0 20 1000 10; tube 1 0 1 1000 10;");
        Checks.due("no meniscus", row.setCurve(0, -19), 0);
        stands(row, 0, 0);
        Checks.due("a meniscus", row.setCurve(0, -20), 1);
        stands(row, 1, 0);
        Checks.due("the other leg", row.tube(1, 6), 0);
        SlantGauges full = wide(TUBE);
        Checks.due("a full column", full.setCurve(0, 1001), 0);
        stands(full, 0, 1000);
        Checks.due("more than that", full.setCurve(0, 1002), 1);
        stands(full, 2, 0);
    }

    private static void setCurveAtItsEnds() {
        SlantGauges row = wide("tube 1 0 1 1000 2000;");
        Checks.due("setCurve 9999", row.setCurve(1, 9999), 0);
        Checks.due("curve", row.leg(1, 2), 9999);
        Checks.due("meniscus", row.tube(0, 10), 9999);
        Checks.due("setCurve -9999", row.setCurve(1, -9999), 1);
        Checks.due("curve", row.leg(1, 2), -9999);
        Checks.due("the curve of the other leg", row.leg(0, 2), 0);
        Checks.due("without tubes", new SlantGauges().setCurve(0, -9999), 0);
    }

    // ---- mend ----

    private static void mendOnBothSides() {
        int[] pressures = {50001, 50000, 48999, 48998};
        int[] states = {1, 0, 0, 2};
        for (int k = 0; k < pressures.length; k++) {
            SlantGauges sucked = wide(TUBE + "pressure 0 50001;");
            sucked.setPressure(0, pressures[k]);
            Checks.due("mend of a sucked one at " + pressures[k], sucked.mend(0), states[k]);
            Checks.due("its state", sucked.tube(0, 6), states[k]);
            Checks.due("is recorded", sucked.undoCount(), 2);
            SlantGauges blown = wide(TUBE + "pressure 0 0;");
            blown.refill(0, 1000);
            blown.setPressure(0, pressures[k]);
            Checks.due("mend of a blown one at " + pressures[k], blown.mend(0), states[k]);
            Checks.due("its state", blown.tube(0, 6), states[k]);
            Checks.due("is recorded", blown.undoCount(), 3);
        }
    }

    private static void mendOfAWholeOne() {
        Checks.unchanged("mend", () -> wide(TUBE), -2, row -> row.mend(0));
        Checks.unchanged("mend with a full column", () -> wide(TUBE + "pressure 0 48999;"), -2, row -> row.mend(0));
    }

    /** What was lost stays lost, and a tube that is blown again loses as much again. */
    private static void mendTakesNothingBack() {
        SlantGauges row = wide(TUBE + "pressure 0 0;");
        row.setPressure(0, 49900);
        Checks.due("mend", row.mend(0), 0);
        Checks.due("lost", row.account(0, 2), 1000L);
        Checks.due("stock", row.account(0, 0), -1000L);
        row.setPressure(0, 0);
        Checks.due("lost again", row.account(0, 2), 2000L);
        Checks.due("mend that is blown at once", row.mend(0), 2);
        Checks.due("lost a third time", row.account(0, 2), 3000L);
        Checks.due("stock", row.account(0, 0), -3000L);
    }

    // ---- refill ----

    /** 99999 L + 1000 is more than the stock at the level 0 until the stock is 1000; the level 0 is too much. */
    private static void refillOnBothSides() {
        SlantGauges row = wide(TUBE + "pressure 0 48999;");
        Checks.due("the level is still -1", row.refill(0, 999), 0);
        stands(row, 0, 1000);
        Checks.due("the level gets 0", row.refill(0, 1), 1);
        stands(row, 2, 0);
        Checks.due("stock", row.account(0, 0), 0L);
        Checks.due("filled in", row.account(0, 3), 1000L);
        Checks.due("of 1", wide(TUBE).refill(0, 1), 0);
        Checks.due("of 99999999", new SlantGauges().refill(1, 99999999), 0);
        String narrow = "gauges 2 50000; leg 0 1000 100 0;" + TUBE.repeat(12);
        Checks.due("twelve are blown", Checks.loaded(narrow).refill(0, 99999999), 12);
        Checks.due("none in the other leg", Checks.loaded(narrow).refill(1, 99999999), 0);
    }

    private static SlantGauges filled(int rest) {
        SlantGauges row = new SlantGauges();
        for (int k = 0; k < 20; k++) {
            row.refill(1, 99999999);
        }
        if (20 - rest > 0) {
            row.refill(1, 20 - rest);
        }
        Checks.due("filled in", row.account(1, 3), 2000000000L - rest);
        return row;
    }

    private static void refillUpTo2000000000() {
        Checks.due("to it by the last unit", filled(1).refill(1, 1), 0);
        Checks.due("to it by the last 20", filled(20).refill(1, 20), 0);
        Checks.unchanged("one more", () -> filled(0), -2, row -> row.refill(1, 1));
        Checks.unchanged("two, where one is left", () -> filled(1), -2, row -> row.refill(1, 2));
        Checks.unchanged("21, where 20 are left", () -> filled(20), -2, row -> row.refill(1, 21));
        Checks.unchanged("the most", () -> filled(0), -2, row -> row.refill(1, 99999999));
    }

    private static void refillIsCountedByLeg() {
        SlantGauges row = filled(0);
        Checks.due("the other leg", row.refill(0, 99999999), 0);
        Checks.due("filled in", row.account(0, 3), 99999999L);
        Checks.due("filled in", row.account(1, 3), 2000000000L);
        Checks.load(row, "gauges 2 50000;");
        Checks.due("from 0 again behind load", row.refill(1, 99999999), 0);
        Checks.due("filled in", row.account(1, 3), 99999999L);
    }

    private static void refillIsCountedWithoutWhatWasLost() {
        Checks.Maker blown = () -> {
            SlantGauges row = filled(20);
            row.addTube(1, 0, 1, 1000, 10);
            return row;
        };
        Checks.due("the stock has room for more", blown.make().account(1, 0), 1999998980L);
        Checks.unchanged("but 2000000000 were filled in", blown, -2, row -> row.refill(1, 21));
        Checks.due("up to them", blown.make().refill(1, 20), 0);
    }

    private static void refillThatIsUndoneIsNotCounted() {
        SlantGauges row = filled(0);
        row.undo();
        Checks.due("as much again", row.refill(1, 20), 0);
        Checks.due("and no more", row.refill(1, 1), -2);
        row.undo();
        Checks.due("more than was undone", row.refill(1, 21), -2);
        Checks.due("less than was undone", row.refill(1, 19), 0);
        Checks.due("what is left", row.refill(1, 1), 0);
        Checks.due("and no more", row.refill(1, 1), -2);
    }

    // ---- addTube and dropTube ----

    private static void addTubeUpToTheTwelfth() {
        SlantGauges row = new SlantGauges();
        for (int k = 0; k < 12; k++) {
            Checks.due("addTube", row.addTube(k % 2, k % 2, 1, 50, 10), k);
            Checks.due("tubes", row.size(2), k + 1);
        }
        Checks.due("the thirteenth", row.addTube(0, 0, 1, 50, 10), -2);
        Checks.due("tubes", row.size(2), 12);
        Checks.unchanged("the thirteenth", () -> wide(TUBE.repeat(12)), -2, full -> full.addTube(0, 0, 1, 50, 10));
    }

    private static void addTubeBehindADroppedOne() {
        SlantGauges row = wide("tube 0 0 1 1000 10 mark 5;".repeat(12));
        Checks.due("dropTube", row.dropTube(0), 11);
        Checks.due("a twelfth again", row.addTube(1, 1, 2, 60, 20), 11);
        Checks.due("its mark", row.tube(11, 5), 0);
        Checks.due("no thirteenth", row.addTube(1, 1, 2, 60, 20), -2);
        row.undo();
        Checks.due("a twelfth behind undo", row.addTube(0, 1, 3, 70, 30), 11);
        int[] numbers = {0, 1, 3, 70, 30, 0, 0, 0, 0, 0, 0};
        for (int what = 0; what < numbers.length; what++) {
            Checks.due("what was added", row.tube(11, what), numbers[what]);
        }
    }

    private static void addTubeAtTheEndsOfItsRanges() {
        SlantGauges row = wide("");
        Checks.due("the least", row.addTube(0, 0, 1, 50, 10), 0);
        Checks.due("the most", row.addTube(1, 2, 20, 1000, 2000), 1);
        int[][] numbers = {{0, 0, 1, 50, 10}, {1, 2, 20, 1000, 2000}};
        for (int tube = 0; tube < 2; tube++) {
            for (int what = 0; what < 5; what++) {
                Checks.due("number", row.tube(tube, what), numbers[tube][what]);
            }
            Checks.due("mark", row.tube(tube, 5), 0);
            Checks.due("state", row.tube(tube, 6), 0);
        }
    }

    private static void addTubeThatBreaks() {
        SlantGauges row = wide("pressure 0 50001; pressure 1 48998; pressure 2 48999;");
        Checks.due("sucked", row.addTube(0, 0, 1, 1000, 10), 0);
        Checks.due("blown", row.addTube(0, 1, 1, 1000, 10), 1);
        Checks.due("whole, if full", row.addTube(1, 2, 1, 1000, 10), 2);
        for (int tube = 0; tube < 3; tube++) {
            Checks.due("state", row.tube(tube, 6), tube == 2 ? 0 : tube + 1);
        }
        Checks.due("each is recorded", row.undoCount(), 3);
    }

    private static void dropTubeFromTwelveToNone() {
        SlantGauges row = wide(TUBE.repeat(12));
        for (int left = 11; left >= 0; left--) {
            Checks.due("dropTube", row.dropTube(left % 3 == 0 ? left : 0), left);
            Checks.due("tubes", row.size(2), left);
        }
        Checks.refused(row, "dropTube of none", "NoSuchElementException", () -> row.dropTube(0));
        Checks.due("addTube behind it", row.addTube(0, 0, 1, 50, 10), 0);
    }

    private static SlantGauges numbered() {
        StringBuilder text = new StringBuilder("gauges 2 50000;");
        for (int k = 0; k < 12; k++) {
            text.append("tube ").append(k % 2).append(" 0 ").append(k + 1).append(" 500 50 mark ").append(k).append(';');
        }
        return Checks.loaded(text.toString());
    }

    private static void dropTubeRenumbers() {
        for (int dropped = 0; dropped < 12; dropped++) {
            SlantGauges row = numbered();
            Checks.due("dropTube", row.dropTube(dropped), 11);
            for (int tube = 0; tube < 11; tube++) {
                int was = tube < dropped ? tube : tube + 1;
                Checks.due("leg", row.tube(tube, 0), was % 2);
                Checks.due("bore", row.tube(tube, 2), was + 1);
                Checks.due("mark", row.tube(tube, 5), was);
            }
            Checks.noSuch("the last number is gone", () -> row.tube(11, 0));
            row.undo();
            Checks.due("undo", Checks.picture(row), Checks.picture(numbered()));
        }
    }

    private static void dropTubeLeavesTheStock() {
        // 100 L + 100 (L + 1000) is 0 at -500; without the tube the level of a stock of 0 is 0.
        SlantGauges row = Checks.loaded("gauges 2 50000; leg 0 1000 100 0; tube 0 0 10 1000 10; pressure 0 49000;");
        Checks.due("level", row.leg(0, 3), -500);
        row.dropTube(0);
        Checks.due("level", row.leg(0, 3), 0);
        Checks.due("stock", row.account(0, 0), 0L);
        Checks.due("lost", row.account(0, 2), 0L);
        SlantGauges blown = wide(TUBE + "pressure 0 0;");
        blown.dropTube(0);
        Checks.due("the stock of a blown one", blown.account(0, 0), -1000L);
        Checks.due("what it lost", blown.account(0, 2), 1000L);
        // The tube 1 is blown when the level that the tube 0 drew down rises.
        SlantGauges two = Checks.loaded("gauges 2 50000; leg 0 1000 100 0; tube 0 0 10 1000 10; tube 0 1 1 1000 10;"
                + "pressure 0 49000; pressure 1 48600;");
        Checks.due("both are whole", two.size(3), 2);
        Checks.due("dropTube answers how many are left", two.dropTube(0), 1);
        Checks.due("blown", two.tube(0, 6), 2);
    }

    private static void whatIsAlreadySoIsRecorded() {
        SlantGauges row = wide(TUBE + "pressure 0 49500;");
        row.setMark(0);
        String before = Checks.picture(row);
        row.setPressure(0, 49500);
        row.setReference(50000);
        row.sweep(0, 49500, 1);
        row.setSlant(0, 1000);
        row.setMark(0);
        row.setCurve(0, 0);
        Checks.due("nothing changes", Checks.picture(row), before);
        Checks.due("all are recorded", row.undoCount(), 7);
        for (int left = 6; left >= 1; left--) {
            Checks.due("undo", row.undo(), left);
            Checks.due("nothing changes", Checks.picture(row), before);
        }
    }
}

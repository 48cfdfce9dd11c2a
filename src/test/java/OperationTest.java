/** Promises 25 to 34: the operations, each recorded once, and section 3 of the document. */
public final class OperationTest {
    private static final String WIDE = "gauges 3 50000; leg 0 1000 99999 0; tube 0 0 1 1000 10 mark 7;";
    private static final String NARROW = "gauges 2 50000; leg 0 1000 100 0; tube 0 0 10 1000 10; tube 0 1 1 1000 10;"
            + "pressure 0 49100; pressure 1 48700;";
    private static final int[] FAR = {Integer.MIN_VALUE, Integer.MAX_VALUE};

    public static void main(String[] args) {
        setPressure();
        setReference();
        sweep();
        setSlant();
        setMark();
        setCurve();
        mend();
        refill();
        addTube();
        dropTube();
        Checks.end();
    }

    /** The operation answers what is due, and is recorded as one even if it changes nothing. */
    private static void recorded(SlantGauges row, String call, Object want, Checks.Call made) {
        String before = Checks.picture(row);
        int count = row.undoCount();
        Checks.due(call, Checks.answerOf(made), want);
        Checks.due(call + " is recorded", row.undoCount(), Math.min(10, count + 1));
        String after = Checks.picture(row);
        row.undo();
        Checks.due(call + " is undone", Checks.picture(row), before);
        Checks.answerOf(made);
        Checks.due(call + " once more", Checks.picture(row), after);
    }

    private static void noSuch(SlantGauges row, String call, Checks.Call made) {
        Checks.refused(row, call, "NoSuchElementException", made);
    }

    private static void illegal(SlantGauges row, String call, Checks.Call made) {
        Checks.refused(row, call, "IllegalArgumentException", made);
    }

    private static void setPressure() {
        SlantGauges row = Checks.loaded(WIDE + "tube 1 0 1 1000 10; tube 0 1 1 1000 10; pressure 0 49998;"
                + "pressure 1 49990;");
        recorded(row, "setPressure", 0, () -> row.setPressure(0, 49489));
        Checks.due("pressure", row.pressure(0), 49489);
        Checks.due("column", row.tube(0, 7), 510);
        Checks.due("reading", row.tube(0, 8), 58);
        recorded(row, "setPressure as it is", 0, () -> row.setPressure(0, 49489));
        recorded(row, "setPressure 0", 2, () -> row.setPressure(0, 0));
        recorded(row, "setPressure 99999", 1, () -> row.setPressure(1, 99999));
        recorded(row, "setPressure of no tube", 0, () -> row.setPressure(2, 0));
        for (int point : new int[] {-1, 3, 8, FAR[0], FAR[1]}) {
            noSuch(row, "setPressure", () -> row.setPressure(point, 50000));
            noSuch(row, "setPressure", () -> row.setPressure(point, 100000));
        }
        for (int pressure : new int[] {-1, 100000, FAR[0], FAR[1]}) {
            illegal(row, "setPressure", () -> row.setPressure(0, pressure));
        }
    }

    private static void setReference() {
        SlantGauges row = Checks.loaded(WIDE + "tube 1 0 1 1000 10; tube 0 1 1 1000 10; pressure 0 49995;"
                + "pressure 1 49000;");
        recorded(row, "setReference", 0, () -> row.setReference(50001));
        Checks.due("reference", row.size(1), 50001);
        recorded(row, "setReference as it is", 0, () -> row.setReference(50001));
        recorded(row, "setReference", 1, () -> row.setReference(50900));
        recorded(row, "setReference 0", 2, () -> row.setReference(0));
        recorded(row, "setReference 99999", 0, () -> row.setReference(99999));
        for (int reference : new int[] {-1, 100000, FAR[0], FAR[1]}) {
            illegal(row, "setReference", () -> row.setReference(reference));
        }
    }

    private static void sweep() {
        SlantGauges row = Checks.loaded(WIDE + "tube 0 0 1 1000 20; tube 1 1 1 1000 10; pressure 0 49999;");
        recorded(row, "sweep in 1 step", 0, () -> row.sweep(0, 49000, 1));
        Checks.due("pressure", row.pressure(0), 49000);
        recorded(row, "sweep to where it is", 0, () -> row.sweep(0, 49000, 50));
        recorded(row, "sweep over both", 2, () -> row.sweep(0, 0, 7));
        Checks.due("its end", row.pressure(0), 0);
        Checks.due("both are lost", row.account(0, 2), 3000L);
        recorded(row, "sweep upwards", 1, () -> row.sweep(1, 99999, 50));
        Checks.due("its end", row.pressure(1), 99999);
        steps();
        for (int point : new int[] {-1, 3, FAR[0], FAR[1]}) {
            noSuch(row, "sweep", () -> row.sweep(point, 50000, 1));
            noSuch(row, "sweep", () -> row.sweep(point, -1, 0));
        }
        for (int pressure : new int[] {-1, 100000, FAR[0], FAR[1]}) {
            illegal(row, "sweep", () -> row.sweep(0, pressure, 1));
        }
        for (int steps : new int[] {0, 51, -1, FAR[0], FAR[1]}) {
            illegal(row, "sweep", () -> row.sweep(0, 50000, steps));
        }
    }

    /**
     * Every step settles: a sweep is as the single pressures one behind the other. On a narrow leg the tubes rise and
     * sink with one another, so what broke on the way may differ from what breaks at once.
     */
    private static void steps() {
        for (int last = 0; last <= 99999; last += 3333) {
            for (int steps = 1; steps <= 50; steps += 7) {
                SlantGauges swept = Checks.loaded(NARROW);
                SlantGauges single = Checks.loaded(NARROW);
                int broken = 0;
                for (int k = 1; k <= steps; k++) {
                    broken += single.setPressure(0, 49100 + (last - 49100) * k / steps);
                }
                Checks.due("sweep", swept.sweep(0, last, steps), broken);
                Checks.due("is as its steps", Checks.picture(swept), Checks.picture(single));
            }
        }
    }

    private static void setSlant() {
        SlantGauges row = Checks.loaded(WIDE + "pressure 0 49899;");
        recorded(row, "setSlant", 0, () -> row.setSlant(0, 100));
        Checks.due("slant", row.tube(0, 3), 100);
        Checks.due("column", row.tube(0, 7), 1000);
        recorded(row, "setSlant as it is", 0, () -> row.setSlant(0, 100));
        recorded(row, "setSlant 1000", 0, () -> row.setSlant(0, 1000));
        Checks.due("column", row.tube(0, 7), 100);
        recorded(row, "setSlant 50", 1, () -> row.setSlant(0, 50));
        Checks.due("blown", row.tube(0, 6), 2);
        recorded(row, "setSlant of a blown one", 0, () -> row.setSlant(0, 77));
        for (int tube : new int[] {-1, 1, 12, FAR[0], FAR[1]}) {
            noSuch(row, "setSlant", () -> row.setSlant(tube, 100));
            noSuch(row, "setSlant", () -> row.setSlant(tube, 49));
        }
        for (int slant : new int[] {49, 1001, FAR[0], FAR[1]}) {
            illegal(row, "setSlant", () -> row.setSlant(0, slant));
        }
    }

    private static void setMark() {
        SlantGauges row = Checks.loaded(WIDE + "tube 1 1 1 110 2000; pressure 0 49489; pressure 1 38991;");
        recorded(row, "setMark", -51, () -> row.setMark(0));
        Checks.due("mark", row.tube(0, 5), -51);
        Checks.due("reading", row.tube(0, 8), 0);
        recorded(row, "setMark as it is", -51, () -> row.setMark(0));
        Checks.due("a column", row.tube(1, 7), 99990);
        recorded(row, "setMark at the range's end", -9999, () -> row.setMark(1));
        row.setPressure(1, 38990);
        Checks.due("a longer column", row.tube(1, 7), 100000);
        Checks.refused(row, "setMark out of range", SlantGauges.HIDDEN - 1, () -> row.setMark(1));
        row.setPressure(1, 60000);
        Checks.refused(row, "setMark of a sucked one", SlantGauges.HIDDEN, () -> row.setMark(1));
        row.setPressure(0, 0);
        Checks.refused(row, "setMark of a blown one", SlantGauges.HIDDEN, () -> row.setMark(0));
        row.setPressure(0, 50000);
        row.refill(0, 1000);
        row.mend(0);
        recorded(row, "setMark 0", 0, () -> row.setMark(0));
        for (int tube : new int[] {-1, 2, 12, FAR[0], FAR[1]}) {
            noSuch(row, "setMark", () -> row.setMark(tube));
        }
    }

    private static void setCurve() {
        SlantGauges row = Checks.loaded(WIDE + "tube 0 0 20 1000 100; tube 1 0 1 1000 10;");
        recorded(row, "setCurve", 0, () -> row.setCurve(0, 500));
        Checks.due("curve", row.leg(0, 2), 500);
        Checks.due("meniscus", row.tube(0, 10), 500);
        Checks.due("meniscus", row.tube(1, 10), 25);
        Checks.due("of the other leg", row.tube(2, 10), 0);
        recorded(row, "setCurve as it is", 0, () -> row.setCurve(0, 500));
        recorded(row, "setCurve 9999", 1, () -> row.setCurve(0, 9999));
        recorded(row, "setCurve -9999", 1, () -> row.setCurve(0, -9999));
        recorded(row, "setCurve -9999", 1, () -> row.setCurve(1, -9999));
        Checks.due("sucked", row.tube(2, 6), 1);
        for (int leg : new int[] {-1, 2, FAR[0], FAR[1]}) {
            noSuch(row, "setCurve", () -> row.setCurve(leg, 0));
            noSuch(row, "setCurve", () -> row.setCurve(leg, 10000));
        }
        for (int curve : new int[] {-10000, 10000, FAR[0], FAR[1]}) {
            illegal(row, "setCurve", () -> row.setCurve(0, curve));
        }
    }

    private static void mend() {
        SlantGauges row = Checks.loaded(WIDE + "tube 0 1 1 1000 10;");
        Checks.refused(row, "mend of a whole one", -2, () -> row.mend(0));
        row.setPressure(0, 40000);
        recorded(row, "mend that is blown again", 2, () -> row.mend(0));
        Checks.due("lost again", row.account(0, 2), 2000L);
        row.setPressure(0, 49000);
        Checks.due("a column of a blown one", row.tube(0, 7), 0);
        recorded(row, "mend", 0, () -> row.mend(0));
        Checks.due("the stock does not come back", row.account(0, 0), -2000L);
        Checks.due("its column", row.tube(0, 7), 999);
        row.setPressure(1, 60000);
        recorded(row, "mend that is sucked again", 1, () -> row.mend(1));
        row.setPressure(1, 40000);
        recorded(row, "mend of a sucked one that is blown", 2, () -> row.mend(1));
        SlantGauges narrow = Checks.loaded(NARROW);
        narrow.setPressure(0, 60000);
        Checks.due("the other one is blown", narrow.tube(1, 6), 2);
        narrow.setPressure(0, 49100);
        narrow.setPressure(1, 50000);
        narrow.refill(0, 2000);
        recorded(narrow, "mend", 0, () -> narrow.mend(1));
        recorded(narrow, "mend that sucks the other one", 0, () -> narrow.mend(0));
        Checks.due("the other one", narrow.tube(1, 6), 1);
        for (int tube : new int[] {-1, 2, 12, FAR[0], FAR[1]}) {
            noSuch(row, "mend", () -> row.mend(tube));
        }
    }

    private static void refill() {
        SlantGauges row = Checks.loaded(WIDE + "pressure 0 49499;");
        recorded(row, "refill", 0, () -> row.refill(0, 99999 * 500));
        Checks.due("the level rises", row.leg(0, 3), 499);
        Checks.due("stock", row.account(0, 0), 49999500L);
        Checks.due("filled in", row.account(0, 3), 49999500L);
        recorded(row, "refill of 1", 1, () -> row.refill(0, 99999 * 2));
        recorded(row, "refill of 1", 0, () -> row.refill(0, 1));
        Checks.due("lost", row.account(0, 2), 1000L);
        Checks.due("stock", row.account(0, 0), 50199499L - 1000L);
        Checks.due("filled in", row.account(0, 3), 50199499L);
        SlantGauges full = new SlantGauges();
        for (int k = 0; k < 20; k++) {
            recorded(full, "refill", 0, () -> full.refill(1, 99999999));
        }
        Checks.refused(full, "refill of 21", -2, () -> full.refill(1, 21));
        recorded(full, "refill of 20", 0, () -> full.refill(1, 20));
        Checks.due("filled in", full.account(1, 3), 2000000000L);
        Checks.refused(full, "refill of 1", -2, () -> full.refill(1, 1));
        Checks.refused(full, "refill of 99999999", -2, () -> full.refill(1, 99999999));
        illegal(full, "refill of 0 with a full account", () -> full.refill(1, 0));
        recorded(full, "refill of the other leg", 0, () -> full.refill(0, 99999999));
        for (int leg : new int[] {-1, 2, FAR[0], FAR[1]}) {
            noSuch(row, "refill", () -> row.refill(leg, 1));
            noSuch(row, "refill", () -> row.refill(leg, 0));
        }
        for (int volume : new int[] {0, -1, 100000000, FAR[0], FAR[1]}) {
            illegal(row, "refill", () -> row.refill(0, volume));
        }
    }

    private static void addTube() {
        SlantGauges row = Checks.loaded(WIDE);
        recorded(row, "addTube", 1, () -> row.addTube(1, 2, 20, 1000, 2000));
        int[] numbers = {1, 2, 20, 1000, 2000, 0, 0, 0, 0, 0, 0};
        for (int what = 0; what < numbers.length; what++) {
            Checks.due("tube 1", row.tube(1, what), numbers[what]);
        }
        row.setPressure(1, 60000);
        recorded(row, "addTube that is sucked", 2, () -> row.addTube(0, 1, 1, 50, 10));
        Checks.due("sucked", row.tube(2, 6), 1);
        Object[][] wrong = {{2, 0, 1, 50, 10}, {-1, 0, 1, 50, 10}, {0, 3, 1, 50, 10}, {0, -1, 1, 50, 10}, {2, 0, 0, 0, 0},
            {0, 3, 0, 0, 0}};
        for (Object[] a : wrong) {
            noSuch(row, "addTube", () -> row.addTube((int) a[0], (int) a[1], (int) a[2], (int) a[3], (int) a[4]));
        }
        int[][] outside = {{0, 50, 10}, {21, 50, 10}, {1, 49, 10}, {1, 1001, 10}, {1, 50, 9}, {1, 50, 2001},
            {FAR[0], 50, 10}, {1, FAR[1], 10}, {1, 50, FAR[1]}};
        for (int[] a : outside) {
            illegal(row, "addTube", () -> row.addTube(0, 0, a[0], a[1], a[2]));
        }
        for (int k = 3; k < 12; k++) {
            int number = k;
            recorded(row, "addTube", number, () -> row.addTube(0, 0, 1, 50, 10));
        }
        Checks.refused(row, "addTube beyond 12", -2, () -> row.addTube(0, 0, 1, 50, 10));
        noSuch(row, "addTube beyond 12", () -> row.addTube(2, 0, 1, 50, 10));
        illegal(row, "addTube beyond 12", () -> row.addTube(0, 0, 1, 50, 9));
        SlantGauges marked = Checks.loaded(WIDE);
        marked.dropTube(0);
        marked.addTube(0, 0, 1, 50, 10);
        Checks.due("the mark of the one before is gone", marked.tube(0, 5), 0);
        SlantGauges narrow = Checks.loaded(NARROW);
        narrow.setPressure(0, 49000);
        Checks.due("addTube that breaks another", narrow.addTube(0, 0, 20, 1000, 2000), 2);
        narrow.setPressure(1, 49800);
        Checks.due("it draws the level", narrow.leg(0, 3) < -700, true);
    }

    private static void dropTube() {
        SlantGauges row = Checks.loaded(NARROW);
        Checks.due("level", row.leg(0, 3), -455);
        recorded(row, "dropTube", 1, () -> row.dropTube(0));
        Checks.due("what was tube 1", row.tube(0, 1), 1);
        Checks.due("is blown, since the level rises", row.tube(0, 6), 2);
        Checks.due("stock", row.account(0, 0), -1000L);
        recorded(row, "dropTube", 0, () -> row.dropTube(0));
        Checks.due("what was lost stays lost", row.account(0, 2), 1000L);
        noSuch(row, "dropTube of none", () -> row.dropTube(0));
        SlantGauges three = Checks.loaded("gauges 4 50000; tube 0 0 1 50 10; tube 1 1 2 60 20 mark 3; tube 0 2 3 70 30;"
                + "tube 1 3 4 80 40; pressure 2 60000;");
        recorded(three, "dropTube in the middle", 3, () -> three.dropTube(1));
        int[] points = {0, 2, 3};
        for (int tube = 0; tube < 3; tube++) {
            Checks.due("those behind it are 1 less", three.tube(tube, 1), points[tube]);
        }
        Checks.due("with all they are", three.tube(1, 6), 1);
        Checks.due("bore", three.tube(2, 2), 4);
        Checks.due("length", three.tube(2, 4), 40);
        recorded(three, "dropTube of the last one", 2, () -> three.dropTube(2));
        noSuch(three, "dropTube", () -> three.dropTube(2));
        for (int tube : new int[] {-1, 12, FAR[0], FAR[1]}) {
            noSuch(three, "dropTube", () -> three.dropTube(tube));
        }
    }
}

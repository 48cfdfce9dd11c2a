/**
 * Every argument of every call at the ends of its range: the last value that is allowed, the first that is not, and
 * that a refused call changes nothing (the history, the snapshot, the buffer and the text of format neither).
 */
public final class RangesTest {
    private static final String NO_SUCH = "NoSuchElementException";
    private static final String ILLEGAL = "IllegalArgumentException";
    private static final Checks.Maker MIDDLE = () -> middle();
    private static final Checks.Maker LEAST = () -> new SlantGauges();
    private static final Checks.Maker MOST = () -> most();

    interface OnNumber {
        Object go(SlantGauges row, int number);
    }

    public static void main(String[] args) {
        whats();
        points();
        legs();
        tubes();
        pressures();
        otherNumbers();
        lengthsOfBuffer();
        existenceFirst();
        exceptionsAheadOfCodes();
        withoutTubes();
        withTwelveTubes();
        withTwoPoints();
        withEightPoints();
        Checks.end();
    }

    /** Three points, two whole tubes, a sucked one and a blown one, and something in every other place. */
    private static SlantGauges middle() {
        SlantGauges row = Checks.loaded("gauges 3 50000; leg 0 1000 99999 0; leg 1 1000 99999 0; tube 0 0 1 1000 10 mark 7;"
                + "tube 0 1 1 1000 10; tube 1 2 1 1000 10; tube 1 0 2 500 40 mark -3;"
                + "pressure 0 49500; pressure 1 50001; pressure 2 48000;");
        row.setReference(49900);
        row.saveSnapshot();
        row.undo();
        row.refill(0, 1000);
        row.setCurve(1, 10);
        row.format(1);
        Checks.query(row, "many x");
        Checks.feed(row, "gauges 4 40000;");
        return row;
    }

    private static SlantGauges most() {
        StringBuilder text = new StringBuilder("gauges 8 50000;");
        for (int k = 0; k < 12; k++) {
            text.append("tube ").append(k % 2).append(" 7 1 50 10;");
        }
        return Checks.loaded(text.toString());
    }

    private static boolean isThrown(Object answer) {
        return NO_SUCH.equals(answer) || ILLEGAL.equals(answer);
    }

    private static void allowed(Checks.Maker maker, String call, int number, OnNumber made) {
        SlantGauges row = maker.make();
        Object answer = Checks.answerOf(() -> made.go(row, number));
        Checks.due(call + " with " + number + " throws", isThrown(answer), (Object) false);
    }

    private static void refused(Checks.Maker maker, String call, String thrown, int number, OnNumber made) {
        Checks.unchanged(call + " with " + number, maker, thrown, row -> made.go(row, number));
    }

    private static void range(Checks.Maker maker, String call, String thrown, int least, int most, OnNumber made) {
        allowed(maker, call, least, made);
        allowed(maker, call, most, made);
        for (int number : new int[] {least - 1, most + 1, Integer.MIN_VALUE, Integer.MAX_VALUE}) {
            refused(maker, call, thrown, number, made);
        }
    }

    private static void whats() {
        range(MIDDLE, "size(what)", NO_SUCH, 0, 7, (row, n) -> row.size(n));
        range(MIDDLE, "leg(0, what)", NO_SUCH, 0, 3, (row, n) -> row.leg(0, n));
        range(MIDDLE, "account(1, what)", NO_SUCH, 0, 4, (row, n) -> row.account(1, n));
        range(MIDDLE, "tube(3, what)", NO_SUCH, 0, 10, (row, n) -> row.tube(3, n));
    }

    private static void points() {
        pointsOf(MIDDLE, 2);
    }

    private static void pointsOf(Checks.Maker maker, int last) {
        range(maker, "pressure(point)", NO_SUCH, 0, last, (row, n) -> row.pressure(n));
        range(maker, "agree(point, 0)", NO_SUCH, 0, last, (row, n) -> row.agree(n, 0));
        range(maker, "wouldBreak(point, 0)", NO_SUCH, 0, last, (row, n) -> row.wouldBreak(n, 0));
        range(maker, "breaksIn(point, 1)", NO_SUCH, 0, last, (row, n) -> row.breaksIn(n, 1));
        range(maker, "setPressure(point, 0)", NO_SUCH, 0, last, (row, n) -> row.setPressure(n, 0));
        range(maker, "sweep(point, 0, 2)", NO_SUCH, 0, last, (row, n) -> row.sweep(n, 0, 2));
    }

    private static void legs() {
        range(MIDDLE, "leg(leg, 3)", NO_SUCH, 0, 1, (row, n) -> row.leg(n, 3));
        range(MIDDLE, "account(leg, 4)", NO_SUCH, 0, 1, (row, n) -> row.account(n, 4));
        range(MIDDLE, "setCurve(leg, 1)", NO_SUCH, 0, 1, (row, n) -> row.setCurve(n, 1));
        range(MIDDLE, "refill(leg, 1)", NO_SUCH, 0, 1, (row, n) -> row.refill(n, 1));
        range(MIDDLE, "addTube(leg, 0, 1, 50, 10)", NO_SUCH, 0, 1, (row, n) -> row.addTube(n, 0, 1, 50, 10));
        range(MIDDLE, "addTube(0, point, 1, 50, 10)", NO_SUCH, 0, 2, (row, n) -> row.addTube(0, n, 1, 50, 10));
    }

    private static void tubes() {
        tubesOf(MIDDLE, 3);
    }

    private static void tubesOf(Checks.Maker maker, int last) {
        range(maker, "tube(tube, 10)", NO_SUCH, 0, last, (row, n) -> row.tube(n, 10));
        range(maker, "told(tube)", NO_SUCH, 0, last, (row, n) -> row.told(n));
        range(maker, "off(tube)", NO_SUCH, 0, last, (row, n) -> row.off(n));
        range(maker, "difference(first, 0)", NO_SUCH, 0, last, (row, n) -> row.difference(n, 0));
        range(maker, "difference(0, second)", NO_SUCH, 0, last, (row, n) -> row.difference(0, n));
        range(maker, "room(tube)", NO_SUCH, 0, last, (row, n) -> row.room(n));
        range(maker, "readingWith(tube, 0, 0)", NO_SUCH, 0, last, (row, n) -> row.readingWith(n, 0, 0));
        range(maker, "bestSlant(tube)", NO_SUCH, 0, last, (row, n) -> row.bestSlant(n));
        range(maker, "setSlant(tube, 50)", NO_SUCH, 0, last, (row, n) -> row.setSlant(n, 50));
        range(maker, "setMark(tube)", NO_SUCH, 0, last, (row, n) -> row.setMark(n));
        range(maker, "mend(tube)", NO_SUCH, 0, last, (row, n) -> row.mend(n));
        range(maker, "dropTube(tube)", NO_SUCH, 0, last, (row, n) -> row.dropTube(n));
        range(maker, "format(tube)", NO_SUCH, 0, last, (row, n) -> row.format(n));
    }

    private static void pressures() {
        range(MIDDLE, "readingWith(0, point, 0)", NO_SUCH, 0, 2, (row, n) -> row.readingWith(0, n, 0));
        range(MIDDLE, "readingWith(0, 0, pressure)", ILLEGAL, 0, 99999, (row, n) -> row.readingWith(0, 0, n));
        range(MIDDLE, "wouldBreak(0, pressure)", ILLEGAL, 0, 99999, (row, n) -> row.wouldBreak(0, n));
        range(MIDDLE, "lostWith(reference)", ILLEGAL, 0, 99999, (row, n) -> row.lostWith(n));
        range(MIDDLE, "setPressure(0, pressure)", ILLEGAL, 0, 99999, (row, n) -> row.setPressure(0, n));
        range(MIDDLE, "setReference(reference)", ILLEGAL, 0, 99999, (row, n) -> row.setReference(n));
        range(MIDDLE, "sweep(0, pressure, 1)", ILLEGAL, 0, 99999, (row, n) -> row.sweep(0, n, 1));
    }

    private static void otherNumbers() {
        range(MIDDLE, "agree(0, units)", ILLEGAL, 0, 99999, (row, n) -> row.agree(0, n));
        range(MIDDLE, "breaksIn(0, step)", ILLEGAL, -9999, 9999, (row, n) -> row.breaksIn(0, n));
        range(MIDDLE, "sweep(0, 0, steps)", ILLEGAL, 1, 50, (row, n) -> row.sweep(0, 0, n));
        range(MIDDLE, "setSlant(0, slant)", ILLEGAL, 50, 1000, (row, n) -> row.setSlant(0, n));
        range(MIDDLE, "setCurve(0, curve)", ILLEGAL, -9999, 9999, (row, n) -> row.setCurve(0, n));
        range(MIDDLE, "refill(0, volume)", ILLEGAL, 1, 99999999, (row, n) -> row.refill(0, n));
        range(MIDDLE, "addTube(1, 1, bore, 50, 10)", ILLEGAL, 1, 20, (row, n) -> row.addTube(1, 1, n, 50, 10));
        range(MIDDLE, "addTube(1, 1, 1, slant, 10)", ILLEGAL, 50, 1000, (row, n) -> row.addTube(1, 1, 1, n, 10));
        range(MIDDLE, "addTube(1, 1, 1, 50, length)", ILLEGAL, 10, 2000, (row, n) -> row.addTube(1, 1, 1, 50, n));
    }

    /** The buffer holds 20 bytes, or none, or more than a query may have. */
    private static void lengthsOfBuffer() {
        range(MIDDLE, "load(length)", ILLEGAL, 0, 20, (row, n) -> row.load(n));
        range(MIDDLE, "query(length)", ILLEGAL, 0, 20, (row, n) -> row.query(n));
        range(LEAST, "load(length) of an empty buffer", ILLEGAL, 0, 0, (row, n) -> row.load(n));
        range(LEAST, "query(length) of an empty buffer", ILLEGAL, 0, 0, (row, n) -> row.query(n));
        Checks.Maker full = () -> fed(30);
        range(full, "load(length) of a full buffer", ILLEGAL, 0, 600, (row, n) -> row.load(n));
        range(full, "query(length) of a full buffer", ILLEGAL, 0, 200, (row, n) -> row.query(n));
        range(() -> fed(10), "query(length) of 200 bytes", ILLEGAL, 0, 200, (row, n) -> row.query(n));
        range(() -> fed(9), "query(length) of 180 bytes", ILLEGAL, 0, 180, (row, n) -> row.query(n));
        Checks.unchanged("feed into a full buffer", full, -1, row -> row.feed(1, 2, 3, 4, 5));
    }

    private static SlantGauges fed(int portions) {
        SlantGauges row = new SlantGauges();
        Checks.feed(row, "gauges 7 12345;" + " ".repeat(20 * portions - 15));
        return row;
    }

    private static void existenceFirst() {
        refused(MIDDLE, "agree(point, -1)", NO_SUCH, 3, (row, n) -> row.agree(n, -1));
        refused(MIDDLE, "wouldBreak(point, -1)", NO_SUCH, 3, (row, n) -> row.wouldBreak(n, -1));
        refused(MIDDLE, "readingWith(tube, 0, -1)", NO_SUCH, 4, (row, n) -> row.readingWith(n, 0, -1));
        refused(MIDDLE, "readingWith(0, point, -1)", NO_SUCH, 3, (row, n) -> row.readingWith(0, n, -1));
        refused(MIDDLE, "breaksIn(point, 10000)", NO_SUCH, 3, (row, n) -> row.breaksIn(n, 10000));
        refused(MIDDLE, "setPressure(point, -1)", NO_SUCH, 3, (row, n) -> row.setPressure(n, -1));
        refused(MIDDLE, "sweep(point, -1, 1)", NO_SUCH, 3, (row, n) -> row.sweep(n, -1, 1));
        refused(MIDDLE, "sweep(point, 0, 0)", NO_SUCH, 3, (row, n) -> row.sweep(n, 0, 0));
        refused(MIDDLE, "setSlant(tube, 49)", NO_SUCH, 4, (row, n) -> row.setSlant(n, 49));
        refused(MIDDLE, "setCurve(leg, 10000)", NO_SUCH, 2, (row, n) -> row.setCurve(n, 10000));
        refused(MIDDLE, "refill(leg, 0)", NO_SUCH, 2, (row, n) -> row.refill(n, 0));
        refused(MIDDLE, "addTube(leg, 0, 0, 50, 10)", NO_SUCH, 2, (row, n) -> row.addTube(n, 0, 0, 50, 10));
        refused(MIDDLE, "addTube(0, point, 1, 49, 10)", NO_SUCH, 3, (row, n) -> row.addTube(0, n, 1, 49, 10));
        refused(MIDDLE, "addTube(0, point, 1, 50, 9)", NO_SUCH, 3, (row, n) -> row.addTube(0, n, 1, 50, 9));
    }

    /** Error codes are checked behind the exceptions. */
    private static void exceptionsAheadOfCodes() {
        refused(MOST, "addTube(leg, ..) with 12 tubes", NO_SUCH, 2, (row, n) -> row.addTube(n, 0, 1, 50, 10));
        refused(MOST, "addTube(0, point, ..) with 12 tubes", NO_SUCH, 8, (row, n) -> row.addTube(0, n, 1, 50, 10));
        refused(MOST, "addTube(0, 0, bore, ..) with 12 tubes", ILLEGAL, 21, (row, n) -> row.addTube(0, 0, n, 50, 10));
        Checks.Maker filled = () -> filled();
        refused(filled, "refill(leg, 1) with a full account", NO_SUCH, 2, (row, n) -> row.refill(n, 1));
        refused(filled, "refill(0, volume) with a full account", ILLEGAL, 0, (row, n) -> row.refill(0, n));
        refused(filled, "refill(0, volume) with a full account", ILLEGAL, 100000000, (row, n) -> row.refill(0, n));
    }

    private static SlantGauges filled() {
        SlantGauges row = new SlantGauges();
        for (int k = 0; k < 20; k++) {
            row.refill(0, 99999999);
        }
        row.refill(0, 20);
        return row;
    }

    /** The lowest number of a tube is refused where there are none. */
    private static void withoutTubes() {
        refused(LEAST, "tube(tube, 0)", NO_SUCH, 0, (row, n) -> row.tube(n, 0));
        refused(LEAST, "told(tube)", NO_SUCH, 0, (row, n) -> row.told(n));
        refused(LEAST, "off(tube)", NO_SUCH, 0, (row, n) -> row.off(n));
        refused(LEAST, "difference(tube, tube)", NO_SUCH, 0, (row, n) -> row.difference(n, n));
        refused(LEAST, "room(tube)", NO_SUCH, 0, (row, n) -> row.room(n));
        refused(LEAST, "readingWith(tube, 0, 0)", NO_SUCH, 0, (row, n) -> row.readingWith(n, 0, 0));
        refused(LEAST, "bestSlant(tube)", NO_SUCH, 0, (row, n) -> row.bestSlant(n));
        refused(LEAST, "setSlant(tube, 50)", NO_SUCH, 0, (row, n) -> row.setSlant(n, 50));
        refused(LEAST, "setMark(tube)", NO_SUCH, 0, (row, n) -> row.setMark(n));
        refused(LEAST, "mend(tube)", NO_SUCH, 0, (row, n) -> row.mend(n));
        refused(LEAST, "dropTube(tube)", NO_SUCH, 0, (row, n) -> row.dropTube(n));
        refused(LEAST, "format(tube)", NO_SUCH, 0, (row, n) -> row.format(n));
    }

    private static void withTwelveTubes() {
        tubesOf(MOST, 11);
    }

    private static void withTwoPoints() {
        pointsOf(LEAST, 1);
        range(LEAST, "addTube(0, point, 1, 50, 10)", NO_SUCH, 0, 1, (row, n) -> row.addTube(0, n, 1, 50, 10));
    }

    private static void withEightPoints() {
        pointsOf(MOST, 7);
        range(MOST, "readingWith(11, point, 0)", NO_SUCH, 0, 7, (row, n) -> row.readingWith(11, n, 0));
    }
}

/**
 * Nothing changes but what a call says: what is asked leaves everything as it is, and an operation that is undone leaves
 * the buffer, the error position, the text of format, the snapshot and the history as they were.
 */
public final class NothingElseTest {
    public static void main(String[] args) {
        theRowHoldsSomethingOfEach();
        whatIsAsked();
        forecasts();
        whatIsRefused();
        operations();
        operationsLeaveWhatIsBeside();
        textCalls();
        snapshots();
        Checks.end();
    }

    /** Two whole tubes, a sucked one and a blown one, an error, a snapshot, three operations, a text and a text to load. */
    private static SlantGauges rich() {
        SlantGauges row = Checks.loaded("gauges 4 50000; leg 1 900 800 -70; tube 0 0 4 500 90 mark 3; tube 1 1 2 300 60;"
                + "tube 0 2 1 1000 10; tube 1 3 1 1000 10; pressure 0 49900; pressure 1 49900; pressure 2 99999; pressure 3 0;");
        Checks.load(row, "gauges x");
        row.setPressure(0, 49800);
        row.saveSnapshot();
        row.setReference(50010);
        row.setMark(0);
        row.format(1);
        Checks.feed(row, "gauges 3 50123; tube 0 0 1 1000 10; pressure 2 77;");
        return row;
    }

    private static void theRowHoldsSomethingOfEach() {
        SlantGauges row = rich();
        Checks.due("whole ones", row.size(3), 2);
        Checks.due("sucked ones", row.size(4), 1);
        Checks.due("blown ones", row.size(5), 1);
        Checks.due("error", row.errorPosition(), 7);
        Checks.due("history", row.undoCount(), 3);
        Checks.due("text", Checks.formattedText(row, 8), "1/1 300 ");
        Checks.due("buffer", row.feed(0, 0, 0, 0, 0), 80);
        Checks.due("snapshot", row.restoreSnapshot(), true);
        Checks.due("its reference", row.size(1), 50000);
    }

    private static void leaves(String call, Checks.CallOn made) {
        SlantGauges row = rich();
        Checks.answerOf(() -> made.go(row));
        Checks.due(call + " leaves everything", Checks.everything(row), Checks.everything(rich()));
    }

    private static void whatIsAsked() {
        leaves("errorPosition", row -> row.errorPosition());
        for (int k = -1; k <= 11; k++) {
            int number = k;
            leaves("size", row -> row.size(number));
            leaves("pressure", row -> row.pressure(number));
            leaves("leg 0", row -> row.leg(0, number));
            leaves("leg 1", row -> row.leg(1, number));
            leaves("account 0", row -> row.account(0, number));
            leaves("account 1", row -> row.account(1, number));
            leaves("tube 0", row -> row.tube(0, number));
            leaves("tube 3", row -> row.tube(3, number));
            leaves("told", row -> row.told(number));
            leaves("off", row -> row.off(number));
            leaves("difference to 0", row -> row.difference(number, 0));
            leaves("difference to 2", row -> row.difference(2, number));
            leaves("room", row -> row.room(number));
            leaves("agree", row -> row.agree(number, 5));
            leaves("formattedByte", row -> row.formattedByte(number));
        }
        leaves("ring", row -> row.ring());
        leaves("longest", row -> row.longest());
        leaves("worst", row -> row.worst());
        leaves("meanReading", row -> row.meanReading());
        leaves("wholeShare", row -> row.wholeShare());
        leaves("undoCount", row -> row.undoCount());
    }

    private static void forecasts() {
        for (int point = -1; point <= 4; point++) {
            int at = point;
            for (int pressure : new int[] {-1, 0, 49000, 99999}) {
                leaves("wouldBreak", row -> row.wouldBreak(at, pressure));
                leaves("readingWith", row -> row.readingWith(0, at, pressure));
                leaves("readingWith of a broken one", row -> row.readingWith(2, at, pressure));
                leaves("lostWith", row -> row.lostWith(pressure));
            }
            leaves("breaksIn upwards", row -> row.breaksIn(at, 9999));
            leaves("breaksIn downwards", row -> row.breaksIn(at, -9999));
            leaves("breaksIn never", row -> row.breaksIn(at, 0));
            leaves("bestSlant", row -> row.bestSlant(at));
        }
    }

    private static void whatIsRefused() {
        leaves("load", row -> row.load(61));
        leaves("query", row -> row.query(61));
        leaves("setPressure", row -> row.setPressure(0, -1));
        leaves("setReference", row -> row.setReference(100000));
        leaves("sweep", row -> row.sweep(0, 0, 51));
        leaves("setSlant", row -> row.setSlant(0, 49));
        leaves("setMark", row -> row.setMark(4));
        leaves("setMark of a sucked one", row -> row.setMark(2));
        leaves("setMark of a blown one", row -> row.setMark(3));
        leaves("setCurve", row -> row.setCurve(0, 10000));
        leaves("mend", row -> row.mend(4));
        leaves("mend of a whole one", row -> row.mend(1));
        leaves("refill", row -> row.refill(1, 0));
        leaves("addTube", row -> row.addTube(0, 0, 21, 50, 10));
        leaves("dropTube", row -> row.dropTube(4));
        leaves("format", row -> row.format(4));
    }

    private static void undone(String call, Checks.CallOn made) {
        SlantGauges row = rich();
        made.go(row);
        Checks.due(call + " is recorded", row.undoCount(), 4);
        Checks.due(call + " is undone", row.undo(), 3);
        Checks.due(call + " leaves what is beside", Checks.everything(row), Checks.everything(rich()));
        besideStays(call, made);
    }

    private static void operations() {
        undone("setPressure", row -> row.setPressure(0, 49000));
        undone("setPressure that breaks", row -> row.setPressure(1, 0));
        undone("setReference", row -> row.setReference(50011));
        undone("setReference that breaks", row -> row.setReference(0));
        undone("sweep", row -> row.sweep(1, 0, 7));
        undone("setSlant", row -> row.setSlant(0, 700));
        undone("setSlant that breaks", row -> row.setSlant(1, 50));
        undone("setMark", row -> row.setMark(1));
        undone("setCurve", row -> row.setCurve(1, 9999));
        undone("mend of a sucked one", row -> row.mend(2));
        undone("mend of a blown one", row -> row.mend(3));
        undone("refill", row -> row.refill(1, 99999999));
        undone("addTube", row -> row.addTube(1, 2, 3, 400, 50));
        undone("dropTube of a whole one", row -> row.dropTube(0));
        undone("dropTube of the last one", row -> row.dropTube(3));
    }

    /** Ahead of the undoing, too: the text, the error and the buffer are those of before, and so is the snapshot. */
    private static void besideStays(String call, Checks.CallOn made) {
        SlantGauges row = rich();
        made.go(row);
        Checks.due("the error position behind " + call, row.errorPosition(), 7);
        Checks.due("the text behind " + call, Checks.formattedText(row, 11), Checks.formattedText(rich(), 11));
        Checks.due("the snapshot behind " + call, row.restoreSnapshot(), true);
        SlantGauges saved = rich();
        saved.restoreSnapshot();
        Checks.due("the rest behind " + call, Checks.everything(row), Checks.everything(saved));
    }

    private static void operationsLeaveWhatIsBeside() {
        SlantGauges row = rich();
        for (int k = 0; k < 12; k++) {
            row.setPressure(k % 4, 40000 + k);
        }
        Checks.due("ten are kept", row.undoCount(), 10);
        Checks.due("error", row.errorPosition(), 7);
        Checks.due("text", Checks.formattedText(row, 11), Checks.formattedText(rich(), 11));
        for (int k = 0; k < 10; k++) {
            row.undo();
        }
        Checks.due("error behind ten undos", row.errorPosition(), 7);
        Checks.due("text behind ten undos", Checks.formattedText(row, 11), Checks.formattedText(rich(), 11));
        Checks.due("buffer behind ten undos", row.load(60), 1);
        Checks.due("as it was fed", row.pressure(2), 77);
    }

    private static void textCalls() {
        SlantGauges fed = rich();
        fed.feed(0x20202020, 0x20202020, 0x20202020, 0x20202020, 0x20202020);
        Checks.due("feed changes nothing seen", Checks.wholePicture(fed), Checks.wholePicture(rich()));
        SlantGauges shown = rich();
        shown.format(3);
        Checks.due("format changes nothing seen", Checks.wholePicture(shown), Checks.wholePicture(rich()));
        Checks.due("format leaves the buffer", shown.feed(0, 0, 0, 0, 0), 80);
        Checks.due("format leaves the snapshot", shown.restoreSnapshot(), true);
        SlantGauges read = rich();
        read.load(60);
        Checks.due("load leaves the text", Checks.formattedText(read, 11), Checks.formattedText(rich(), 11));
        SlantGauges asked = rich();
        asked.query(60);
        Checks.due("query leaves the row", Checks.picture(asked), Checks.picture(rich()));
        Checks.due("query leaves the history", asked.undoCount(), 3);
        Checks.due("query leaves the text", Checks.formattedText(asked, 11), Checks.formattedText(rich(), 11));
        Checks.due("query leaves the snapshot", asked.restoreSnapshot(), true);
    }

    private static void snapshots() {
        SlantGauges saved = rich();
        saved.saveSnapshot();
        Checks.due("saveSnapshot changes nothing seen", Checks.wholePicture(saved), Checks.wholePicture(rich()));
        Checks.due("saveSnapshot leaves the text", Checks.formattedText(saved, 11), Checks.formattedText(rich(), 11));
        Checks.due("saveSnapshot leaves the buffer", saved.feed(0, 0, 0, 0, 0), 80);
        SlantGauges restored = rich();
        restored.restoreSnapshot();
        Checks.due("restoreSnapshot leaves the error", restored.errorPosition(), 7);
        Checks.due("restoreSnapshot leaves the text", Checks.formattedText(restored, 11), Checks.formattedText(rich(), 11));
        Checks.due("restoreSnapshot leaves the buffer", restored.load(60), 1);
        Checks.due("as it was fed", restored.pressure(2), 77);
    }
}

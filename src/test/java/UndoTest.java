/** Promises 35 to 40: the text of a tube, undoing, snapshots, and section 7 of the document. */
public final class UndoTest {
    private static final String TEXT = "gauges 8 50000; leg 0 1000 99999 0; tube 0 0 1 1000 10; tube 0 7 1 50 10 mark -25;"
            + "tube 1 1 1 300 10 mark 9999; tube 1 2 2 1000 10; pressure 1 60000; pressure 2 0; pressure 0 49489; pressure 7 49999;";

    public static void main(String[] args) {
        formatting();
        formattedBytes();
        undoing();
        undoingRestores();
        notUndone();
        snapshots();
        Checks.end();
    }

    private static void formatting() {
        SlantGauges row = Checks.loaded(TEXT);
        Checks.due("format", row.format(0), 11);
        Checks.due("a whole one", Checks.formatted(row, 0), "0/0 1000 51");
        Checks.due("below 0", Checks.formatted(row, 1), "0/7 50 -25");
        Checks.due("a sucked one", Checks.formatted(row, 2), "1/1 300 sucked");
        Checks.due("a blown one", Checks.formatted(row, 3), "1/2 1000 blown");
        row.setPressure(0, 49999);
        Checks.due("a reading of 0", Checks.formatted(row, 0), "0/0 1000 0");
        for (int tube : new int[] {-1, 4, 12, Integer.MIN_VALUE, Integer.MAX_VALUE}) {
            Checks.refused(row, "format", "NoSuchElementException", () -> row.format(tube));
        }
        Checks.due("the text is still that of the most recent call", Checks.formattedText(row, 10), "0/0 1000 0");
        Checks.due("format is not recorded", row.undoCount(), 1);
    }

    private static void formattedBytes() {
        SlantGauges row = Checks.loaded(TEXT);
        Checks.due("without a call", row.formattedByte(0), -1);
        int length = row.format(2);
        for (int index : new int[] {-1, length, length + 1, 600, Integer.MIN_VALUE, Integer.MAX_VALUE}) {
            Checks.due("out of range", row.formattedByte(index), -1);
        }
        Checks.due("the first", row.formattedByte(0), (int) '1');
        Checks.due("the last", row.formattedByte(length - 1), (int) 'd');
        int shorter = row.format(0);
        Checks.due("nothing of a longer one before", row.formattedByte(shorter), -1);
        row.saveSnapshot();
        row.setPressure(0, 49999);
        Checks.due("behind a change", Checks.formattedText(row, shorter), "0/0 1000 51");
        row.undo();
        row.setPressure(0, 49999);
        row.format(0);
        row.undo();
        Checks.due("behind undo", Checks.formattedText(row, 10), "0/0 1000 0");
        row.restoreSnapshot();
        Checks.due("behind restoreSnapshot", Checks.formattedText(row, 10), "0/0 1000 0");
        Checks.load(row, "gauges 2 50000;");
        Checks.due("behind load", Checks.formattedText(row, 10), "0/0 1000 0");
    }

    private static void undoing() {
        SlantGauges row = Checks.loaded(TEXT);
        Checks.due("nothing to undo", row.undoCount(), 0);
        Checks.refused(row, "undo", SlantGauges.NONE, () -> row.undo());
        for (int k = 1; k <= 13; k++) {
            row.setPressure(3, k);
            Checks.due("undoCount", row.undoCount(), Math.min(10, k));
        }
        for (int k = 12; k >= 3; k--) {
            Checks.due("undo", row.undo(), k - 3);
            Checks.due("the most recent one first", row.pressure(3), k);
        }
        Checks.due("undo", row.undo(), -1);
        Checks.due("the 11th stays", row.pressure(3), 3);
        row.setPressure(3, 7);
        row.setPressure(3, 8);
        Checks.due("undo", row.undo(), 1);
        row.setPressure(3, 9);
        Checks.due("undo", row.undo(), 1);
        Checks.due("what came behind an undo is undone", row.pressure(3), 7);
        Checks.due("undo", row.undo(), 0);
        Checks.due("and what came ahead of it", row.pressure(3), 3);
    }

    private static void undoingRestores() {
        SlantGauges row = Checks.loaded(TEXT);
        String[] pictures = new String[11];
        Checks.Call[] calls = {() -> row.setPressure(0, 40000), () -> row.setReference(49000), () -> row.sweep(3, 5, 6),
            () -> row.setSlant(1, 77), () -> row.mend(3), () -> row.setCurve(1, 12), () -> row.refill(1, 99999999),
            () -> row.addTube(1, 3, 2, 100, 50), () -> row.dropTube(0), () -> row.setCurve(0, -9999)};
        for (int k = 0; k < 10; k++) {
            pictures[k] = Checks.picture(row);
            Checks.answerOf(calls[k]);
        }
        for (int k = 9; k >= 0; k--) {
            Checks.due("undo", row.undo(), k);
            Checks.due("everything is as it was", Checks.picture(row), pictures[k]);
        }
    }

    private static void notUndone() {
        SlantGauges row = Checks.loaded(TEXT);
        Checks.query(row, "many x");
        row.setPressure(0, 1);
        row.format(3);
        row.feed(0, 0, 0, 0, 0);
        row.undo();
        Checks.due("the error position stays", row.errorPosition(), 5);
        Checks.due("the buffer stays", row.feed(0, 0, 0, 0, 0), 40);
        Checks.due("the text stays", row.formattedByte(0), (int) '1');
        row.saveSnapshot();
        row.restoreSnapshot();
        Checks.due("the error position stays", row.errorPosition(), 5);
        Checks.due("the buffer stays", row.feed(0, 0, 0, 0, 0), 60);
        Checks.due("a call that only asks is not recorded", row.undoCount(), 0);
    }

    private static void snapshots() {
        SlantGauges row = Checks.loaded(TEXT);
        Checks.refused(row, "restoreSnapshot without one", false, () -> row.restoreSnapshot());
        row.setPressure(3, 1);
        Checks.refused(row, "restoreSnapshot without one", false, () -> row.restoreSnapshot());
        row.refill(0, 100);
        row.saveSnapshot();
        Checks.due("saving is not recorded and clears nothing", row.undoCount(), 2);
        String saved = Checks.picture(row);
        row.setReference(0);
        row.dropTube(1);
        row.addTube(0, 0, 3, 60, 70);
        row.setCurve(0, 5);
        row.undo();
        Checks.due("restoreSnapshot", row.restoreSnapshot(), true);
        Checks.due("everything is as it was saved", Checks.picture(row), saved);
        Checks.due("the history is cleared", row.undoCount(), 0);
        Checks.due("undo", row.undo(), -1);
        row.mend(3);
        row.setPressure(0, 0);
        Checks.due("the snapshot is kept", row.restoreSnapshot(), true);
        Checks.due("everything is as it was saved", Checks.picture(row), saved);
        row.setPressure(3, 77);
        row.saveSnapshot();
        String replaced = Checks.picture(row);
        row.undo();
        Checks.due("undoing leaves the snapshot", row.restoreSnapshot(), true);
        Checks.due("it replaced the earlier one", Checks.picture(row), replaced);
    }
}

/** Promises 35 to 40 and section 7 of the document at their boundaries, a sentence by a method. */
public final class UndoEdgesTest {
    private static final String TEXT = "gauges 8 50000; leg 0 1000 99999 0; leg 1 1000 99999 0; tube 0 0 1 1000 10;"
            + "tube 1 7 1 50 10 mark 9; tube 0 1 1 300 2000; tube 1 2 2 1000 10; pressure 1 60000; pressure 2 0;"
            + "pressure 0 49489; pressure 7 49999;";

    public static void main(String[] args) {
        nothingToUndo();
        oneToTenOperations();
        elevenOperations();
        farMoreThanTenOperations();
        undoAndGoOn();
        undoneOnesAreGone();
        everyOperationIsUndone();
        refusedCallsPushNothingOut();
        callsThatOnlyAskAreNotRecorded();
        undoLeavesBufferPositionAndText();
        noSnapshot();
        theSnapshotIsReplaced();
        theSnapshotIsKept();
        theSnapshotHoldsEverything();
        restoringClearsTheHistory();
        theSnapshotOfARowWithoutTubes();
        formatOfEveryState();
        formatAtTheEndsOfTheRanges();
        formattedByteOnBothSides();
        theTextStaysAsItWas();
        aRunOf512Calls();
        Checks.end();
    }

    // ---- undo ----

    private static void nothingToUndo() {
        Checks.due("undoCount", new SlantGauges().undoCount(), 0);
        Checks.unchanged("undo of a new row", () -> new SlantGauges(), -1, row -> row.undo());
        Checks.unchanged("undo behind load", () -> Checks.loaded(TEXT), -1, row -> row.undo());
        SlantGauges row = Checks.loaded(TEXT);
        row.setPressure(3, 5);
        Checks.due("the only one", row.undo(), 0);
        Checks.due("undoCount", row.undoCount(), 0);
        Checks.due("no second one", row.undo(), -1);
        Checks.due("as it was read", Checks.picture(row), Checks.picture(Checks.loaded(TEXT)));
    }

    private static SlantGauges operated(int count) {
        SlantGauges row = Checks.loaded(TEXT);
        for (int k = 1; k <= count; k++) {
            row.setPressure(3, k);
        }
        return row;
    }

    private static void oneToTenOperations() {
        for (int count = 1; count <= 10; count++) {
            SlantGauges row = operated(count);
            Checks.due("undoCount", row.undoCount(), count);
            for (int left = count - 1; left >= 0; left--) {
                Checks.due("undo", row.undo(), left);
                Checks.due("undoCount", row.undoCount(), left);
                Checks.due("pressure", row.pressure(3), left == 0 ? 50000 : left);
            }
            Checks.due("undo of none", row.undo(), -1);
            Checks.due("pressure", row.pressure(3), 50000);
        }
    }

    private static void elevenOperations() {
        SlantGauges row = operated(11);
        Checks.due("undoCount", row.undoCount(), 10);
        for (int left = 9; left >= 0; left--) {
            Checks.due("undo", row.undo(), left);
            Checks.due("pressure", row.pressure(3), left + 1);
        }
        Checks.unchanged("the eleventh", () -> tenUndone(), -1, other -> other.undo());
        Checks.due("the first one stays", row.pressure(3), 1);
    }

    private static SlantGauges tenUndone() {
        SlantGauges row = operated(11);
        for (int k = 0; k < 10; k++) {
            row.undo();
        }
        return row;
    }

    private static void farMoreThanTenOperations() {
        for (int count = 12; count <= 45; count++) {
            SlantGauges row = operated(count);
            Checks.due("undoCount", row.undoCount(), 10);
            for (int back = 1; back <= 10; back++) {
                Checks.due("undo", row.undo(), 10 - back);
                Checks.due("pressure", row.pressure(3), count - back);
            }
            Checks.due("undo of none", row.undo(), -1);
        }
    }

    /** Behind each number of undone ones as many more come, up to ten again. */
    private static void undoAndGoOn() {
        for (int undone = 1; undone <= 10; undone++) {
            for (int more = 1; more <= 12; more++) {
                SlantGauges row = operated(13);
                for (int k = 0; k < undone; k++) {
                    row.undo();
                }
                for (int k = 1; k <= more; k++) {
                    row.setPressure(3, 1000 + k);
                }
                int kept = Math.min(10, 10 - undone + more);
                Checks.due("undoCount", row.undoCount(), kept);
                for (int back = 1; back <= kept; back++) {
                    Checks.due("undo", row.undo(), kept - back);
                    int due = back < more ? 1000 + more - back : 13 - undone + more - back;
                    Checks.due("pressure", row.pressure(3), due);
                }
                Checks.due("undo of none", row.undo(), -1);
            }
        }
    }

    private static void undoneOnesAreGone() {
        SlantGauges row = operated(2);
        row.undo();
        row.undo();
        row.setReference(7);
        Checks.due("one alone", row.undoCount(), 1);
        Checks.due("undo", row.undo(), 0);
        Checks.due("reference", row.size(1), 50000);
        Checks.due("pressure", row.pressure(3), 50000);
        Checks.due("undo", row.undo(), -1);
    }

    private static void undone(String call, Checks.CallOn made) {
        SlantGauges row = operated(1);
        String before = Checks.picture(row);
        Object answer = Checks.answerOf(() -> made.go(row));
        Checks.due(call + " changes something", Checks.picture(row).equals(before), (Object) false);
        Checks.due(call + " is recorded, answering " + answer, row.undoCount(), 2);
        Checks.due("undo of " + call, row.undo(), 1);
        Checks.due("all is as it was ahead of " + call, Checks.picture(row), before);
        Checks.due("undo", row.undo(), 0);
        Checks.due("all is as it was read", Checks.picture(row), Checks.picture(Checks.loaded(TEXT)));
    }

    private static void everyOperationIsUndone() {
        undone("setPressure", row -> row.setPressure(0, 99999));
        undone("setReference", row -> row.setReference(99999));
        undone("sweep", row -> row.sweep(0, 0, 50));
        undone("setSlant", row -> row.setSlant(0, 50));
        undone("setMark", row -> row.setMark(0));
        undone("setCurve", row -> row.setCurve(0, 9999));
        undone("mend of a sucked one", row -> {
            row.setPressure(1, 49000);
            row.undo();
            return row.mend(3);
        });
        undone("refill", row -> row.refill(0, 99999999));
        undone("addTube", row -> row.addTube(0, 2, 20, 50, 2000));
        undone("dropTube of the first", row -> row.dropTube(0));
        undone("dropTube of the last", row -> row.dropTube(3));
        undone("dropTube of a sucked one", row -> row.dropTube(2));
    }

    private static void refusedCallsPushNothingOut() {
        SlantGauges row = operated(10);
        Checks.answerOf(() -> row.setPressure(8, 1));
        Checks.answerOf(() -> row.setReference(100000));
        Checks.answerOf(() -> row.sweep(0, 1, 0));
        Checks.answerOf(() -> row.setSlant(0, 1001));
        Checks.answerOf(() -> row.setCurve(2, 0));
        Checks.answerOf(() -> row.refill(0, 0));
        Checks.answerOf(() -> row.addTube(0, 0, 21, 50, 10));
        Checks.answerOf(() -> row.dropTube(4));
        Checks.due("setMark of a sucked one", row.setMark(2), SlantGauges.HIDDEN);
        Checks.due("mend of a whole one", row.mend(0), -2);
        Checks.due("undoCount", row.undoCount(), 10);
        for (int left = 9; left >= 0; left--) {
            Checks.due("undo", row.undo(), left);
            Checks.due("pressure", row.pressure(3), left == 0 ? 50000 : left);
        }
    }

    private static void callsThatOnlyAskAreNotRecorded() {
        SlantGauges row = operated(10);
        row.wouldBreak(0, 0);
        row.readingWith(0, 0, 0);
        row.breaksIn(0, -9999);
        row.bestSlant(0);
        row.lostWith(0);
        row.format(0);
        row.feed(0, 0, 0, 0, 0);
        row.saveSnapshot();
        Checks.query(row, "many 1 = 1");
        Checks.load(row, "gauges 9 0;");
        Checks.due("undoCount", row.undoCount(), 10);
        Checks.due("undo", row.undo(), 9);
        Checks.due("pressure", row.pressure(3), 9);
    }

    private static void undoLeavesBufferPositionAndText() {
        SlantGauges row = operated(1);
        row.format(2);
        Checks.query(row, "many 1 ? 1");
        Checks.feed(row, "gauges 5 12345;");
        row.setSlant(2, 77);
        row.undo();
        row.undo();
        Checks.due("the position", row.errorPosition(), 7);
        Checks.due("the text", Checks.formattedText(row, 14), "0/1 300 sucked");
        Checks.due("the buffer", row.load(15), 0);
        Checks.due("what it held", row.size(1), 12345);
    }

    // ---- snapshots ----

    private static void noSnapshot() {
        Checks.unchanged("restoreSnapshot of a new row", () -> new SlantGauges(), false, row -> row.restoreSnapshot());
        Checks.unchanged("restoreSnapshot behind operations", () -> operated(10), false, row -> row.restoreSnapshot());
        Checks.unchanged("restoreSnapshot behind load", () -> loadedBehindASnapshot(), false, row -> row.restoreSnapshot());
    }

    private static SlantGauges loadedBehindASnapshot() {
        SlantGauges row = operated(3);
        row.saveSnapshot();
        Checks.load(row, TEXT);
        row.setPressure(4, 44);
        return row;
    }

    private static void theSnapshotIsReplaced() {
        SlantGauges row = operated(1);
        row.saveSnapshot();
        row.setPressure(3, 2);
        row.saveSnapshot();
        row.setPressure(3, 3);
        Checks.due("restoreSnapshot", row.restoreSnapshot(), true);
        Checks.due("the later one", row.pressure(3), 2);
    }

    private static void theSnapshotIsKept() {
        SlantGauges row = operated(1);
        row.saveSnapshot();
        for (int k = 0; k < 3; k++) {
            row.setPressure(3, 77);
            row.dropTube(0);
            Checks.due("restoreSnapshot", row.restoreSnapshot(), true);
            Checks.due("as it was saved", Checks.picture(row), Checks.picture(operated(1)));
        }
        row.setPressure(3, 88);
        row.undo();
        Checks.load(row, "gauges 2 5");
        Checks.due("behind undo and an error of load", row.restoreSnapshot(), true);
        Checks.due("as it was saved", Checks.picture(row), Checks.picture(operated(1)));
    }

    private static void theSnapshotHoldsEverything() {
        SlantGauges row = operated(1);
        row.refill(0, 1234);
        row.setCurve(1, 3);
        String saved = Checks.picture(row);
        row.saveSnapshot();
        row.setReference(1);
        row.sweep(0, 0, 50);
        row.setSlant(0, 50);
        row.setCurve(0, 77);
        row.mend(3);
        row.refill(1, 99999999);
        row.addTube(0, 2, 20, 50, 2000);
        row.dropTube(0);
        Checks.due("all of it has changed", Checks.picture(row).equals(saved), (Object) false);
        Checks.due("restoreSnapshot", row.restoreSnapshot(), true);
        Checks.due("as it was saved", Checks.picture(row), saved);
    }

    private static void restoringClearsTheHistory() {
        SlantGauges row = operated(10);
        row.saveSnapshot();
        Checks.due("saving leaves the history", row.undoCount(), 10);
        row.restoreSnapshot();
        Checks.due("restoring clears it", row.undoCount(), 0);
        Checks.due("undo", row.undo(), -1);
        Checks.due("the pressure stays", row.pressure(3), 10);
        for (int k = 1; k <= 11; k++) {
            row.setPressure(3, 100 + k);
        }
        Checks.due("ten again", row.undoCount(), 10);
        for (int k = 0; k < 10; k++) {
            row.undo();
        }
        Checks.due("back to the first", row.pressure(3), 101);
        Checks.due("undo", row.undo(), -1);
    }

    private static void theSnapshotOfARowWithoutTubes() {
        SlantGauges row = new SlantGauges();
        row.saveSnapshot();
        for (int k = 0; k < 12; k++) {
            row.addTube(0, 0, 1, 50, 10);
        }
        row.restoreSnapshot();
        Checks.due("no tubes", row.size(2), 0);
        Checks.noSuch("tube 0", () -> row.tube(0, 0));
        Checks.due("addTube", row.addTube(0, 0, 1, 50, 10), 0);
        SlantGauges full = Checks.loaded("gauges 2 50000;" + "tube 0 0 1 50 10;".repeat(12));
        full.saveSnapshot();
        for (int k = 0; k < 12; k++) {
            full.dropTube(0);
        }
        full.restoreSnapshot();
        Checks.due("twelve tubes", full.size(2), 12);
        Checks.due("the last one", full.tube(11, 4), 10);
    }

    // ---- format ----

    private static void formatted(SlantGauges row, int tube, String due) {
        Checks.due("length of " + due, row.format(tube), due.length());
        Checks.due("format", Checks.formattedText(row, due.length()), due);
        Checks.due("behind " + due, row.formattedByte(due.length()), -1);
    }

    private static void formatOfEveryState() {
        SlantGauges row = Checks.loaded(TEXT);
        formatted(row, 0, "0/0 1000 51");
        formatted(row, 1, "1/7 50 9");
        formatted(row, 2, "0/1 300 sucked");
        formatted(row, 3, "1/2 1000 blown");
    }

    private static void formatAtTheEndsOfTheRanges() {
        String low = "gauges 2 50000; tube 0 0 1 50 10 mark ";
        formatted(Checks.loaded(low + "0;"), 0, "0/0 50 0");
        formatted(Checks.loaded(low + "-1;"), 0, "0/0 50 -1");
        formatted(Checks.loaded(low + "1;"), 0, "0/0 50 1");
        formatted(Checks.loaded(low + "9;"), 0, "0/0 50 9");
        formatted(Checks.loaded(low + "10;"), 0, "0/0 50 10");
        formatted(Checks.loaded(low + "-10;"), 0, "0/0 50 -10");
        formatted(Checks.loaded(low + "9999;"), 0, "0/0 50 9999");
        formatted(Checks.loaded("gauges 8 50000; tube 1 7 1 1000 10 mark -9999;"), 0, "1/7 1000 -9999");
        // A column of 200000 by the level -3, and a MARK of 9999: the greatest reading.
        formatted(Checks.loaded("gauges 8 50000; leg 1 1000 99999 0; tube 1 7 1 50 2000 mark 9999; pressure 7 39997;"), 0,
                "1/7 50 29999");
    }

    private static void formattedByteOnBothSides() {
        SlantGauges row = Checks.loaded(TEXT);
        for (int index : new int[] {Integer.MIN_VALUE, -1, 0, 1, Integer.MAX_VALUE}) {
            Checks.due("without a call of format", row.formattedByte(index), -1);
        }
        row.format(2);
        Checks.due("ahead of the first", row.formattedByte(-1), -1);
        Checks.due("the first", row.formattedByte(0), (int) '0');
        Checks.due("the last", row.formattedByte(13), (int) 'd');
        Checks.due("behind the last", row.formattedByte(14), -1);
        Checks.due("far off", row.formattedByte(Integer.MAX_VALUE), -1);
        Checks.due("far off", row.formattedByte(Integer.MIN_VALUE), -1);
        row.format(1);
        Checks.due("the last of a shorter one", row.formattedByte(7), (int) '9');
        Checks.due("nothing of the longer one", row.formattedByte(8), -1);
        Checks.noSuch("a refused format", () -> row.format(4));
        Checks.due("the text is still there", Checks.formattedText(row, 8), "1/7 50 9");
    }

    private static void theTextStaysAsItWas() {
        SlantGauges row = Checks.loaded(TEXT);
        row.saveSnapshot();
        row.format(0);
        String due = "0/0 1000 51";
        row.setPressure(0, 0);
        Checks.due("behind an operation", Checks.formattedText(row, 11), due);
        row.undo();
        Checks.due("behind undo", Checks.formattedText(row, 11), due);
        row.dropTube(0);
        Checks.due("behind dropTube", Checks.formattedText(row, 11), due);
        row.restoreSnapshot();
        Checks.due("behind restoreSnapshot", Checks.formattedText(row, 11), due);
        Checks.query(row, "many 1 = 1");
        Checks.load(row, "x");
        Checks.due("behind query and an error of load", Checks.formattedText(row, 11), due);
        Checks.load(row, "gauges 2 50000;");
        Checks.due("behind load", Checks.formattedText(row, 11), due);
        Checks.due("and no more of it", row.formattedByte(11), -1);
    }

    // ---- 512 calls ----

    /** The 512th call of an object is answered as the first one would be, whatever came ahead of it. */
    private static void aRunOf512Calls() {
        SlantGauges row = new SlantGauges();
        for (int k = 0; k < 511; k++) {
            row.sweep(0, k % 2 * 99999, 50);
        }
        Checks.due("the last pressure", row.pressure(0), 0);
        SlantGauges texts = new SlantGauges();
        for (int k = 0; k < 255; k++) {
            texts.feed(0x67617567, 0x65732033, 0x20343030, 0x30303b20, 0x20202020);
            Checks.due("load", texts.load(20), 0);
        }
        texts.feed(0x67617567, 0x65732033, 0x20343030, 0x30303b20, 0x20202020);
        Checks.due("the 512th call", texts.load(20), 0);
    }
}

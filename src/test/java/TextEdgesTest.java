/** Promises 1 to 4 and section 5 of the document at their boundaries, a sentence by a method. */
public final class TextEdgesTest {
    private static final String START = "gauges 3 50000; ";
    private static final String[] WHOLE_TEXT = {"gauges", "3", "50000", ";", "leg", "1", "900", "800", "-", "70", ";",
        "tube", "0", "2", "4", "300", "60", "mark", "-", "5", ";", "pressure", "2", "49000", ";", "leg", "0", "700", "600",
        "50", ";", "tube", "1", "1", "6", "200", "90", ";", "tube", "0", "0", "7", "80", "95", "mark", "6", ";"};

    public static void main(String[] args) {
        aNewObjectIsAsByItsText();
        feedAnswersTheBytes();
        feedBeyond600AppendsNothing();
        feedPutsTheMostSignificantByteFirst();
        everyPlaceOf600CountsAlone();
        everyByteAlone();
        everyByteBehindANumber();
        everyByteBehindAWord();
        loadReadsTheFirstBytesAlone();
        theBufferIsEmptyBehindLoad();
        loadAnswersTheWholeTubes();
        loadReplacesEverything();
        loadSettlesOnceBehindTheText();
        loadDiscardsHistoryAndSnapshot();
        anErrorChangesOnlyBufferAndPosition();
        errorPositionIsOfTheMostRecentReading();
        rangesOfTheHead();
        rangesOfALeg();
        rangesOfATube();
        rangesOfAPressure();
        signedNumbers();
        numbersThatWrapAround();
        leadingZeros();
        wordsAreMaximal();
        wordsCutByTheLength();
        tokensNeedNoSpaces();
        theTextMayEndBehindEachClause();
        theTextEndsTooEarly();
        everyTokenSpoiled();
        whatIsNotToldHasItsFirstValue();
        whatIsToldAgain();
        twelveTubesAndTheThirteenth();
        theFirstErrorAlongTheText();
        theSmallestCodeOfOneToken();
        Checks.end();
    }

    private static void aNewObjectIsAsByItsText() {
        Checks.due("a new row", Checks.everything(new SlantGauges()), Checks.everything(Checks.loaded("gauges 2 50000;")));
        Checks.due("points of a new row", new SlantGauges().size(0), 2);
        Checks.due("tubes of a new row", new SlantGauges().size(2), 0);
        Checks.due("a number of another object", new SlantGauges().setPressure(0, 7), 0);
        Checks.due("objects share nothing", new SlantGauges().pressure(0), 50000);
    }

    private static void error(String text, int code, int position) {
        SlantGauges row = new SlantGauges();
        Checks.due("load of " + text, Checks.load(row, text), -10 - code);
        Checks.due("errorPosition of " + text, row.errorPosition(), position);
    }

    // ---- promise 2 ----

    private static void feedAnswersTheBytes() {
        SlantGauges row = new SlantGauges();
        Checks.due("the first feed", row.feed(0, 0, 0, 0, 0), 20);
        Checks.due("the second feed", row.feed(-1, -1, -1, -1, -1), 40);
        for (int k = 3; k < 30; k++) {
            row.feed(0, 0, 0, 0, 0);
        }
        Checks.due("the last feed that has room", row.feed(0, 0, 0, 0, 0), 600);
    }

    private static void feedBeyond600AppendsNothing() {
        String clause = "pressure 1 48765;";
        String text = START + " ".repeat(600 - START.length() - clause.length()) + clause;
        SlantGauges row = new SlantGauges();
        Checks.due("600 bytes", Checks.feed(row, text), 600);
        Checks.due("feed of 20 more", row.feed(0x78787878, 0x78787878, 0x78787878, 0x78787878, 0x78787878), -1);
        Checks.due("feed of 20 more again", row.feed(0, 0, 0, 0, 0), -1);
        Checks.illegal("load(601)", () -> row.load(601));
        Checks.due("the 600 bytes are as they were", row.load(600), 0);
        Checks.due("by their last clause", row.pressure(1), 48765);
        Checks.due("the emptied buffer has room", row.feed(0, 0, 0, 0, 0), 20);
    }

    private static void feedPutsTheMostSignificantByteFirst() {
        SlantGauges row = new SlantGauges();
        row.feed(0x67617567, 0x65732037, 0x20313233, 0x34353b70, 0x72657373);
        row.feed(0x75726520, 0x36203637, 0x3839303b, 0x20202020, 0x20202020);
        Checks.due("gauges 7 12345;pressure 6 67890;", row.load(32), 0);
        Checks.due("points", row.size(0), 7);
        Checks.due("reference", row.size(1), 12345);
        Checks.due("pressure", row.pressure(6), 67890);
    }

    private static void everyPlaceOf600CountsAlone() {
        for (int place = 0; place < 600; place++) {
            SlantGauges row = new SlantGauges();
            Checks.feed(row, " ".repeat(place) + "?" + " ".repeat(599 - place));
            Checks.due("600 bytes with one sign", row.load(600), -11);
            Checks.due("its place", row.errorPosition(), place);
        }
    }

    /** The bytes 32 and 10 are ignored; all others are tokens, and none of them begins a text alone. */
    private static void everyByteAlone() {
        for (int sign = 0; sign <= 255; sign++) {
            boolean ignored = sign == 32 || sign == 10;
            error(String.valueOf((char) sign), 1, ignored ? 1 : 0);
        }
    }

    private static void everyByteBehindANumber() {
        for (int sign = 0; sign <= 255; sign++) {
            String text = "gauges 2 50000" + (char) sign + ";";
            if (sign == 32 || sign == 10) {
                Checks.due("a separator", Checks.load(new SlantGauges(), text), 0);
            } else if (sign >= '0' && sign <= '9') {
                error(text, 2, 9);
            } else {
                error(text, 1, sign == ';' ? 15 : 14);
            }
        }
    }

    private static void everyByteBehindAWord() {
        for (int sign = 0; sign <= 255; sign++) {
            String text = "gauges" + (char) sign + " 2 50000;";
            if (sign == 32 || sign == 10) {
                Checks.due("a separator", Checks.load(new SlantGauges(), text), 0);
            } else if (sign >= 'a' && sign <= 'z') {
                error(text, 1, 0);
            } else if (sign >= '2' && sign <= '8') {
                error(text, 1, 10);
            } else {
                error(text, sign == '0' || sign == '1' || sign == '9' ? 2 : 1, 6);
            }
        }
    }

    // ---- promises 3 and 4 ----

    private static void loadReadsTheFirstBytesAlone() {
        SlantGauges row = new SlantGauges();
        Checks.feed(row, "gauges 2 50000;;;;;;");
        Checks.due("15 of 20 bytes", row.load(15), 0);
        Checks.feed(row, "gauges 2 50000;;;;;;");
        Checks.due("16 of 20 bytes", row.load(16), -11);
        Checks.due("the 16th", row.errorPosition(), 15);
        Checks.feed(row, "gauges 2 50000;;;;;;");
        Checks.due("14 of 20 bytes", row.load(14), -11);
        Checks.due("the end of 14", row.errorPosition(), 14);
        Checks.feed(row, "gauges 2 50000;;;;;;");
        Checks.due("none of 20 bytes", row.load(0), -11);
        Checks.due("the end of none", row.errorPosition(), 0);
    }

    private static void theBufferIsEmptyBehindLoad() {
        SlantGauges row = new SlantGauges();
        Checks.feed(row, "gauges 2 50000;" + " ".repeat(100));
        row.load(15);
        Checks.illegal("what was not read is gone, too", () -> row.load(1));
        Checks.due("feed behind load", row.feed(0, 0, 0, 0, 0), 20);
        Checks.due("an error", row.load(20), -11);
        Checks.illegal("the buffer is empty behind an error", () -> row.load(1));
        Checks.due("feed behind an error", row.feed(0, 0, 0, 0, 0), 20);
        Checks.due("load of none with an error", row.load(0), -11);
        Checks.illegal("the buffer is empty behind load(0)", () -> row.load(1));
    }

    private static String tubes(int count) {
        return START + "tube 0 1 3 400 50;".repeat(count);
    }

    private static void loadAnswersTheWholeTubes() {
        Checks.due("no tube", Checks.load(new SlantGauges(), START), 0);
        Checks.due("one", Checks.load(new SlantGauges(), tubes(1)), 1);
        Checks.due("twelve", Checks.load(new SlantGauges(), tubes(12)), 12);
        Checks.due("none of twelve", Checks.load(new SlantGauges(), tubes(12) + "pressure 1 50001;"), 0);
        Checks.due("all of twelve blown", Checks.load(new SlantGauges(), tubes(12) + "pressure 1 0;"), 0);
    }

    private static void loadReplacesEverything() {
        SlantGauges row = Checks.loaded("gauges 8 1; leg 0 700 600 50; leg 1 900 800 -70; tube 0 2 4 300 60 mark 9;"
                + "tube 1 7 1 50 10; pressure 7 0; pressure 1 99999;");
        row.refill(0, 99999999);
        row.refill(1, 1);
        row.setReference(99999);
        Checks.load(row, "gauges 2 50000;");
        Checks.due("is as a new one", Checks.everything(row), Checks.everything(new SlantGauges()));
        Checks.noSuch("a point that is gone", () -> Checks.loaded("gauges 2 50000;").pressure(2));
    }

    /** Not behind each clause: the first pressure alone would blow the tube, and the first curve would suck it. */
    private static void loadSettlesOnceBehindTheText() {
        Checks.due("the last pressure counts", Checks.load(new SlantGauges(),
                "gauges 2 50000; tube 0 0 1 1000 10; pressure 0 0; pressure 0 50000;"), 1);
        Checks.due("the last curve counts", Checks.load(new SlantGauges(),
                "gauges 2 50000; tube 0 0 1 1000 10; leg 0 1000 10000 -9999; leg 0 1000 10000 0;"), 1);
        SlantGauges row = Checks.loaded("gauges 2 50000; tube 0 0 1 1000 10; pressure 0 0;");
        Checks.due("a blown one takes its column from the stock", row.account(0, 0), -1000L);
        Checks.due("once", row.account(0, 2), 1000L);
    }

    private static void loadDiscardsHistoryAndSnapshot() {
        SlantGauges row = new SlantGauges();
        row.setPressure(0, 1);
        row.saveSnapshot();
        row.setPressure(0, 2);
        Checks.load(row, "gauges 2 50000;;");
        Checks.due("the history behind an error", row.undoCount(), 2);
        Checks.due("undo behind an error", row.undo(), 1);
        Checks.due("the pressure ahead of it", row.pressure(0), 1);
        Checks.due("the snapshot behind an error", row.restoreSnapshot(), true);
        row.setPressure(0, 3);
        Checks.load(row, "gauges 2 50000;");
        Checks.due("the history behind load", row.undoCount(), 0);
        Checks.due("undo behind load", row.undo(), -1);
        Checks.due("the snapshot behind load", row.restoreSnapshot(), false);
        Checks.due("what was read stays", row.pressure(0), 50000);
    }

    /** The error stands as late in the text as it can, so that all of it has been read. */
    private static void anErrorChangesOnlyBufferAndPosition() {
        String text = "gauges 8 99999; leg 0 700 600 50; tube 0 2 4 300 60 mark 9; pressure 0 1; x";
        SlantGauges row = kept();
        SlantGauges twin = kept();
        Checks.due("an error at the end", Checks.load(row, text), -11);
        Checks.due("its position", row.errorPosition(), text.length() - 1);
        Checks.load(twin, "x");
        Checks.load(row, "x");
        Checks.due("nothing else", Checks.everything(row), Checks.everything(twin));
    }

    private static SlantGauges kept() {
        SlantGauges row = Checks.loaded(START + "tube 1 1 2 500 90 mark -4; leg 1 900 800 -70; pressure 1 49000;");
        row.setPressure(2, 3);
        row.saveSnapshot();
        row.refill(1, 7777);
        row.format(0);
        return row;
    }

    private static void errorPositionIsOfTheMostRecentReading() {
        SlantGauges row = new SlantGauges();
        Checks.due("no reading", row.errorPosition(), -1);
        Checks.illegal("a refused load", () -> row.load(1));
        Checks.due("behind a refused load", row.errorPosition(), -1);
        Checks.load(row, " x");
        Checks.due("of load", row.errorPosition(), 1);
        Checks.illegal("a refused load", () -> row.load(-1));
        Checks.illegal("a refused query", () -> row.query(-1));
        row.setPressure(0, 1);
        row.undo();
        row.saveSnapshot();
        row.restoreSnapshot();
        Checks.due("behind calls that read nothing", row.errorPosition(), 1);
        Checks.query(row, "  x");
        Checks.due("of query", row.errorPosition(), 2);
        Checks.load(row, "   x");
        Checks.due("of load behind query", row.errorPosition(), 3);
        Checks.query(row, "many 1=1");
        Checks.due("of query without an error", row.errorPosition(), -1);
        Checks.query(row, "x");
        Checks.due("at the first byte", row.errorPosition(), 0);
        Checks.load(row, START);
        Checks.due("of load without an error", row.errorPosition(), -1);
    }

    // ---- section 5: ranges ----

    interface Reader {
        int of(SlantGauges row);
    }

    /** The number at the sign % of a text: what is allowed is read so, what is not is told by code 2 at its place. */
    private static void range(String text, int least, int most, Reader reader) {
        for (int number : new int[] {least, most}) {
            SlantGauges row = Checks.loaded(text.replace("%", String.valueOf(number)));
            Checks.due(number + " in " + text, reader.of(row), number);
        }
        int at = text.indexOf('%');
        error(text.replace("%", String.valueOf(most + 1)), 2, at);
        error(text.replace("%", String.valueOf(Integer.MAX_VALUE)), 2, at);
        if (least > 0) {
            error(text.replace("%", String.valueOf(least - 1)), 2, at);
            error(text.replace("%", "0"), 2, at);
        }
        error(text.replace("%", "-1"), 1, at);
    }

    private static void rangesOfTheHead() {
        range("gauges % 50000;", 2, 8, row -> row.size(0));
        range("gauges 2 %;", 0, 99999, row -> row.size(1));
    }

    private static void rangesOfALeg() {
        range(START + "leg % 700 600 50;", 0, 1, row -> row.leg(0, 0) == 700 ? 0 : row.leg(1, 0) == 700 ? 1 : -1);
        range(START + "leg 0 % 600 50;", 100, 20000, row -> row.leg(0, 0));
        range(START + "leg 1 % 600 50;", 100, 20000, row -> row.leg(1, 0));
        range(START + "leg 0 700 % 50;", 100, 99999, row -> row.leg(0, 1));
        range(START + "leg 1 700 % 50;", 100, 99999, row -> row.leg(1, 1));
    }

    private static void rangesOfATube() {
        range(START + "tube % 1 3 400 50;", 0, 1, row -> row.tube(0, 0));
        range(START + "tube 0 % 3 400 50;", 0, 2, row -> row.tube(0, 1));
        range("gauges 8 50000; tube 0 % 3 400 50;", 0, 7, row -> row.tube(0, 1));
        range("gauges 2 50000; tube 0 % 3 400 50;", 0, 1, row -> row.tube(0, 1));
        range(START + "tube 0 1 % 400 50;", 1, 20, row -> row.tube(0, 2));
        range(START + "tube 0 1 3 % 50;", 50, 1000, row -> row.tube(0, 3));
        range(START + "tube 0 1 3 400 %;", 10, 2000, row -> row.tube(0, 4));
        range(START + "tube 0 1 3 400 % mark 5;", 10, 2000, row -> row.tube(0, 4));
    }

    private static void rangesOfAPressure() {
        range(START + "pressure % 777;", 0, 2, row -> pointOf777(row));
        range("gauges 8 50000; pressure % 777;", 0, 7, row -> pointOf777(row));
        range("gauges 2 50000; pressure % 777;", 0, 1, row -> pointOf777(row));
        range(START + "pressure 2 %;", 0, 99999, row -> row.pressure(2));
    }

    private static int pointOf777(SlantGauges row) {
        int found = -1;
        for (int point = 0; point < row.size(0); point++) {
            found = row.pressure(point) == 777 ? point : found;
        }
        return found;
    }

    /** Of a signed number the error is at its number; without one at the token behind the '-'. */
    private static void signedNumbers() {
        String[] heads = {START + "leg 1 700 600 ", START + "tube 0 1 3 400 50 mark "};
        for (String head : heads) {
            boolean leg = head == heads[0];
            int[] allowed = {-9999, -1, 0, 1, 9999};
            for (int number : allowed) {
                SlantGauges row = Checks.loaded(head + number + ";");
                Checks.due("signed " + number, leg ? row.leg(1, 2) : row.tube(0, 5), number);
            }
            SlantGauges row = Checks.loaded(head + "- \n 0009999 ;");
            Checks.due("a sign apart from its number", leg ? row.leg(1, 2) : row.tube(0, 5), -9999);
            Checks.due("minus 0", Checks.load(row, head + "-0;"), leg ? 0 : 1);
            int at = head.length();
            error(head + "10000;", 2, at);
            error(head + "-10000;", 2, at + 1);
            error(head + "-  10000;", 2, at + 3);
            error(head + "--5;", 1, at + 1);
            error(head + "-;", 1, at + 1);
            error(head + "- ;", 1, at + 2);
            error(head + "- x5;", 1, at + 2);
            error(head + "-", 1, at + 1);
            error(head + "-   ", 1, at + 4);
            error(head + ";", 1, at);
            error(head + "5 5;", 1, at + 2);
            error(head + "5-;", 1, at + 1);
            error(head + "+5;", 1, at);
        }
    }

    /** 2 to the powers of 31, 32, 63 and 64, and 2 more than these, are no 0, 1 or 2. */
    private static void numbersThatWrapAround() {
        String[] numbers = {"2147483647", "2147483648", "2147483650", "4294967296", "4294967297", "4294967298",
            "9223372036854775807", "9223372036854775808", "9223372036854775810", "18446744073709551616",
            "18446744073709551617", "18446744073709551618", "100000000", "1000000000", "10000000000", "2".repeat(500)};
        for (String number : numbers) {
            error("gauges " + number + " 50000;", 2, 7);
            error("gauges 2 " + number + ";", 2, 9);
            String pressure = "gauges 2 50000;pressure ";
            error(pressure + number + " 50000;", 2, pressure.length());
        }
    }

    private static void leadingZeros() {
        Checks.due("in the head", Checks.load(new SlantGauges(), "gauges 002 050000;"), 0);
        SlantGauges row = Checks.loaded("gauges " + "0".repeat(500) + "8 " + "0".repeat(20) + "99999; pressure 07 00;");
        Checks.due("many of them", row.size(0), 8);
        Checks.due("many of them", row.size(1), 99999);
        Checks.due("00", row.pressure(7), 0);
        error("gauges " + "0".repeat(500) + "9 50000;", 2, 7);
        error("gauges 00 50000;", 2, 7);
        error("gauges 01 50000;", 2, 7);
    }

    private static void wordsAreMaximal() {
        error("gauge 2 50000;", 1, 0);
        error("gaugess 2 50000;", 1, 0);
        error("agauges 2 50000;", 1, 0);
        error("gauge s 2 50000;", 1, 0);
        error("GAUGES 2 50000;", 1, 0);
        error("gaugesz 2 50000;", 1, 0);
        error("zgauges 2 50000;", 1, 0);
        error("aauges 2 50000;", 1, 0);
        error("gaugea 2 50000;", 1, 0);
        int at = START.length();
        String[] wrong = {"le 0 700 600 5", "legs 0 700 600 5", "legleg 0 700 600 5", "tub 0 1 3 400 50", "tubes 0 1 3 400 50",
            "pressur 0 7", "pressures 0 7", "mark 5", "gauges 2 50000", "5", "-"};
        for (String clause : wrong) {
            error(START + clause + ";", 1, at);
        }
        String tube = START + "tube 0 1 3 400 50 ";
        error(tube + "mar 5;", 1, tube.length());
        error(tube + "marks 5;", 1, tube.length());
        error(tube + "tube;", 1, tube.length());
    }

    /** What stands behind the length in the buffer makes no word whole. */
    private static void wordsCutByTheLength() {
        String text = START + "leg 0 700 600 5; tube 0 1 3 400 50 mark 5; pressure 1 7;";
        for (String word : new String[] {"gauges", "leg", "tube", "mark", "pressure"}) {
            int at = text.indexOf(word);
            for (int length = at + 1; length < at + word.length(); length++) {
                SlantGauges row = new SlantGauges();
                Checks.feed(row, text);
                Checks.due(length + " bytes of " + text, row.load(length), -11);
                Checks.due("their error", row.errorPosition(), at);
            }
        }
    }

    private static void tokensNeedNoSpaces() {
        SlantGauges row = new SlantGauges();
        Checks.due("words and numbers part one another",
                Checks.load(row, "gauges3 50000;tube0 1 3 400 50mark-5;leg0 700 600-5;pressure2 7;"), 0);
        Checks.due("a curve of -5 sucks it", row.size(4), 1);
        Checks.due("mark", row.tube(0, 5), -5);
        Checks.due("curve", row.leg(0, 2), -5);
        Checks.due("separators at both ends", Checks.load(row, " \n\n gauges\n3\n50000\n;\n "), 0);
        error("gauges 350000;", 2, 7);
        error("gauges 3;50000;", 1, 8);
    }

    private static String joined(String[] tokens, int count) {
        StringBuilder text = new StringBuilder();
        for (int k = 0; k < count; k++) {
            text.append(tokens[k]).append(' ');
        }
        return text.toString();
    }

    private static void theTextMayEndBehindEachClause() {
        for (int count = 1; count <= WHOLE_TEXT.length; count++) {
            String text = joined(WHOLE_TEXT, count);
            boolean ends = WHOLE_TEXT[count - 1].equals(";");
            if (ends) {
                Checks.due("no error in " + text, Checks.load(new SlantGauges(), text) >= 0, (Object) true);
            } else {
                error(text, 1, text.length());
            }
        }
    }

    private static void theTextEndsTooEarly() {
        error("", 1, 0);
        error(" ", 1, 1);
        error("\n\n\n", 1, 3);
        error("gauges", 1, 6);
        error("gauges ", 1, 7);
        error("gauges 2 50000", 1, 14);
        error("gauges 2 50000 \n ", 1, 17);
        error(" ".repeat(600), 1, 600);
        String almost = START + " ".repeat(600 - START.length() - 8) + "pressure";
        error(almost, 1, 600);
        String number = "leg 0 700 600 5";
        error(START + " ".repeat(600 - START.length() - number.length()) + number, 1, 600);
        Checks.due("behind ; it may end", Checks.load(new SlantGauges(), "gauges 2 50000;\n  "), 0);
    }

    private static void everyTokenSpoiled() {
        for (String spoiled : new String[] {"%", "zz", "(", "=", "\u00e9", "\0"}) {
            for (int k = 0; k < WHOLE_TEXT.length; k++) {
                String[] tokens = WHOLE_TEXT.clone();
                tokens[k] = spoiled;
                error(joined(tokens, tokens.length), 1, joined(tokens, k).length());
            }
        }
    }

    private static void whatIsNotToldHasItsFirstValue() {
        SlantGauges row = Checks.loaded("gauges 8 50000; leg 1 700 600 50; tube 0 0 1 50 10; pressure 3 7;");
        int[] leg = {1000, 10000, 0};
        for (int what = 0; what < 3; what++) {
            Checks.due("the leg that is not told", row.leg(0, what), leg[what]);
        }
        for (int point = 0; point < 8; point++) {
            Checks.due("the pressures that are not told", row.pressure(point), point == 3 ? 7 : 50000);
        }
        Checks.due("the mark that is not told", row.tube(0, 5), 0);
        Checks.due("whole", row.tube(0, 6), 0);
        Checks.due("the stock at first", row.account(0, 0), 0L);
        SlantGauges low = Checks.loaded("gauges 2 0;");
        Checks.due("a pressure is 50000 at first, with every reference", low.pressure(0), 50000);
    }

    private static void whatIsToldAgain() {
        SlantGauges row = Checks.loaded("gauges 2 50000; leg 0 700 600 50; pressure 1 5; leg 0 800 900 -60; pressure 1 6;"
                + "tube 0 0 1 50 10; tube 0 0 1 50 10;");
        int[] leg = {800, 900, -60};
        for (int what = 0; what < 3; what++) {
            Checks.due("a leg told again", row.leg(0, what), leg[what]);
        }
        Checks.due("a pressure told again", row.pressure(1), 6);
        Checks.due("a tube told again is another tube", row.size(2), 2);
    }

    private static void twelveTubesAndTheThirteenth() {
        String twelve = tubes(12);
        Checks.due("twelve tubes", Checks.loaded(twelve).size(2), 12);
        Checks.due("a pressure behind the twelfth", Checks.loaded(twelve + "pressure 1 50000;").size(2), 12);
        error(twelve + "tube 0 1 3 400 50;", 3, twelve.length());
        error(twelve + "\n tube", 3, twelve.length() + 2);
        error(twelve + "tube 9 9 9 9 9;", 3, twelve.length());
        error(twelve + "tube %", 3, twelve.length());
        error(twelve + "leg 0 700 600 5; tube 0 1 3 400 50;", 3, twelve.length() + 17);
        error(twelve + "leg tube", 1, twelve.length() + 4);
        error(twelve + "tubes", 1, twelve.length());
        error(twelve + "%tube", 1, twelve.length());
        String eleven = tubes(11);
        error(eleven + "tube 0 1 3 400 9;", 2, eleven.length() + 15);
    }

    private static void theFirstErrorAlongTheText() {
        error("gauges 1 100000", 2, 7);
        error("gauges % 100000", 1, 7);
        error("gauges 2 100000 %", 2, 9);
        error("gauges 2 50000 % 7", 1, 15);
        error(START + "leg 2 99 99 10000", 2, 20);
        error(START + "leg 0 99 99 10000", 2, 22);
        error(START + "leg 0 100 99 10000", 2, 26);
        error(START + "leg 0 100 100 10000", 2, 30);
        error(START + "leg 0 100 100 9999", 1, 34);
        error(START + "tube 2 3 0 49 9 mark 10000", 2, 21);
        error(START + "tube 0 3 0 49 9 mark 10000", 2, 23);
        error(START + "tube 0 2 0 49 9 mark 10000", 2, 25);
        error(START + "tube 0 2 1 49 9 mark 10000", 2, 27);
        error(START + "tube 0 2 1 50 9 mark 10000", 2, 30);
        error(START + "tube 0 2 1 50 10 mark 10000", 2, 38);
        error(START + "pressure 3 100000 x", 2, 25);
        error(START + "pressure 2 100000 x", 2, 27);
        error(START + "pressure 2 99999 x", 1, 33);
        error(tubes(12) + "x tube", 1, tubes(12).length());
    }

    /** A number that is out of every range, where no number is allowed, is told by code 1. */
    private static void theSmallestCodeOfOneToken() {
        error("1000000", 1, 0);
        error("gauges 2 50000 1000000", 1, 15);
        error(START + "1000000", 1, START.length());
        error(START + "pressure 0 5 1000000;", 1, START.length() + 13);
        error(START + "tube 0 1 3 400 50 1000000;", 1, START.length() + 18);
    }
}

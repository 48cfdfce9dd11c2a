/** Promise 41: query, and section 6 of the document. */
public final class QueryTest {
    private static final String TEXT = "gauges 3 50000; tube 0 0 10 500 90 mark 5; tube 0 1 5 500 80; tube 1 2 4 250 100;"
            + "tube 0 2 1 1000 50; tube 1 0 2 900 60; pressure 0 49000; pressure 1 49500; pressure 2 50100;";

    public static void main(String[] args) {
        properties();
        comparisons();
        binding();
        manyAndFirst();
        tokens();
        nesting();
        grammarErrors();
        rangeErrors();
        lengths();
        Checks.end();
    }

    private static void answers(String text, int want) {
        SlantGauges row = Checks.loaded(TEXT);
        String before = Checks.picture(row);
        Checks.due(text, Checks.query(row, text), want);
        Checks.due("no error in " + text, row.errorPosition(), -1);
        Checks.due("nothing changes by " + text, Checks.picture(row), before);
        Checks.illegal("the buffer is empty behind " + text, () -> row.query(1));
    }

    /** The bit sum of the tubes for which the test holds, asked tube by tube, is as due. */
    private static void holds(String test, int bits) {
        SlantGauges row = Checks.loaded(TEXT);
        int held = 0;
        for (int k = 0; k < 5; k++) {
            held += Checks.query(row, "many (" + test + ") and tube = " + k) << k;
        }
        Checks.due(test, held, bits);
        Checks.due("many " + test, Checks.query(row, "many " + test), Integer.bitCount(bits));
        int first = bits == 0 ? -1 : Integer.numberOfTrailingZeros(bits);
        Checks.due("first " + test, Checks.query(row, "first " + test), first);
    }

    private static void properties() {
        holds("tube = 3", 8);
        holds("leg = 1", 20);
        holds("point = 2", 12);
        holds("bore = 4", 4);
        holds("slant = 500", 3);
        holds("length = 60", 16);
        holds("state = 0", 19);
        holds("state = 1", 12);
        holds("state = 2", 0);
        holds("column = 1956", 1);
        holds("column = 0", 12);
        holds("pressure = 50100", 12);
        holds("pressure < 49500", 17);
        SlantGauges row = Checks.loaded(TEXT);
        row.setPressure(0, 0);
        Checks.due("blown ones", Checks.query(row, "many state = 2"), 2);
        Checks.due("a blown one has no column", Checks.query(row, "many state = 2 and column = 0"), 2);
    }

    private static void comparisons() {
        holds("1 < 2", 31);
        holds("2 < 2", 0);
        holds("2 = 2", 31);
        holds("2 > 2", 0);
        holds("3 > 2", 31);
        holds("2 > 3", 0);
        holds("bore > tube", 7);
        holds("bore < tube", 24);
        holds("tube = point", 7);
        holds("0 = leg", 11);
        holds("999999 > pressure", 31);
    }

    private static void binding() {
        holds("tube = 0 or tube = 1 and tube = 2", 1);
        holds("tube = 0 and tube = 1 or tube = 2", 4);
        holds("(tube = 0 or tube = 1) and tube > 0", 2);
        holds("not tube = 0 and tube < 3", 6);
        holds("not tube = 0 or tube = 0", 31);
        holds("not (tube = 0 or tube = 1)", 28);
        holds("not not tube = 1", 2);
        holds("tube = 0 or tube = 1 or tube = 4", 19);
        holds("tube > 0 and tube < 4 and leg = 0", 10);
        holds("((tube = 3))", 8);
    }

    private static void manyAndFirst() {
        answers("many tube > 0", 4);
        answers("first tube > 0", 1);
        answers("first tube > 4", -1);
        answers("many tube > 4", 0);
        SlantGauges empty = new SlantGauges();
        Checks.due("many of none", Checks.query(empty, "many not 1 = 2"), 0);
        Checks.due("first of none", Checks.query(empty, "first not 1 = 2"), -1);
        StringBuilder text = new StringBuilder("gauges 2 50000;");
        for (int k = 0; k < 12; k++) {
            text.append("tube 0 0 1 50 10;");
        }
        SlantGauges full = Checks.loaded(text.toString());
        Checks.due("many of 12", Checks.query(full, "many not 1 = 2"), 12);
        Checks.due("the last of 12", Checks.query(full, "first tube = 11"), 11);
    }

    private static void tokens() {
        answers("many(not(tube=0))and(0000000000000000<tube)", 4);
        answers("\nmany\n\ntube>0  ", 4);
        error("many 3tube", 1, 6);
        answers("many1<2and2<3", 5);
        SlantGauges row = Checks.loaded(TEXT);
        Checks.feed(row, "first tube = 12");
        Checks.due("a number ends with the text", row.query(14), 1);
        Checks.feed(row, "many 1 = legs");
        Checks.due("a word ends with the text", row.query(12), 2);
    }

    private static void error(String text, int code, int position) {
        SlantGauges row = Checks.loaded(TEXT);
        row.setPressure(0, 48000);
        String before = Checks.picture(row);
        Checks.due(text, Checks.query(row, text), -1000000000 - code);
        Checks.due("errorPosition of " + text, row.errorPosition(), position);
        Checks.due("nothing changes by " + text, Checks.picture(row), before);
        Checks.due("nothing is recorded by " + text, row.undoCount(), 1);
        Checks.illegal("the buffer is empty behind " + text, () -> row.query(1));
        Checks.due("errorPosition behind a call that did not read", row.errorPosition(), position);
    }

    private static void nesting() {
        answers("many ((((((tube = 1))))))", 1);
        answers("many not not not not not not tube = 1", 1);
        answers("many not (not (not (tube = 1)))", 4);
        answers("many (((((not tube = 1) and not tube = 2) and not tube = 3) and not tube = 4))", 1);
        answers("many not not not not not not 1 = 1 and not not not not not not 2 = 2", 5);
        answers("many (((((not 1 = 2 and (1 = 1) or not 3 = 4)))))", 5);
        error("many (((((((tube = 1)))))))", 3, 11);
        error("many not not not not not not not tube = 1", 3, 29);
        error("many not (not (not (not tube = 1)))", 3, 20);
        answers("many not (not (not not tube = 1))", 1);
        error("many (((((not (1 = 1))))))", 3, 14);
        error("many ((((((1 = 1 and (2 = 2)))))))", 3, 21);
        error("many ((((((1 = 1)))))) (", 1, 23);
    }

    private static void grammarErrors() {
        error("", 1, 0);
        error("   ", 1, 3);
        error("tube = 1", 1, 0);
        error("manyfirst tube = 1", 1, 0);
        error("many first tube = 1", 1, 5);
        error("many", 1, 4);
        error("many tube", 1, 9);
        error("many tube = ", 1, 12);
        error("many tube 1", 1, 10);
        error("many tube == 1", 1, 11);
        error("many tube = 1 2", 1, 14);
        error("many tube = 1 and", 1, 17);
        error("many tube = 1 and or tube = 2", 1, 18);
        error("many mark = 1", 1, 5);
        error("many reading = 1", 1, 5);
        error("many tubes = 1", 1, 5);
        error("many tube = -1", 1, 12);
        error("many tube = 1;", 1, 13);
        error("many tube = not", 1, 12);
        error("many (tube = 1", 1, 14);
        error("many tube = 1)", 1, 13);
        error("many ()", 1, 6);
        error("many (tube) = 1", 1, 10);
        error("many tube = 1 Or tube = 2", 1, 14);
        error("many tube = 1\t", 1, 13);
        error("many tube = 1 \u00ff", 1, 14);
        error("many not", 1, 8);
        error("many 1 = 1 or not", 1, 17);
    }

    private static void rangeErrors() {
        error("many tube = 1000000", 2, 12);
        error("many 1000000 = tube x", 2, 5);
        error("many 4294967296 = tube", 2, 5);
        error("many 99999999999999999999999999999999 = tube", 2, 5);
        error("first 0 = 0 and 10000000000000000000 = 0", 2, 16);
        answers("many 00000000000000000000000999999 > tube", 5);
    }

    private static void lengths() {
        SlantGauges row = Checks.loaded(TEXT);
        StringBuilder long200 = new StringBuilder("many 1 = 1");
        while (long200.length() < 200) {
            long200.append(' ');
        }
        Checks.due("200 bytes", Checks.query(row, long200.toString()), 5);
        Checks.feed(row, long200.toString() + "x");
        for (int length : new int[] {-1, 201, 221, Integer.MIN_VALUE, Integer.MAX_VALUE}) {
            Checks.refused(row, "query(" + length + ")", "IllegalArgumentException", () -> row.query(length));
        }
        Checks.due("the buffer is still there", row.query(10), 5);
        Checks.refused(row, "query(1) of nothing", "IllegalArgumentException", () -> row.query(1));
        Checks.due("query(0)", row.query(0), -1000000001);
        Checks.due("its position", row.errorPosition(), 0);
    }
}

/** Promise 41 and section 6 of the document at their boundaries, a sentence by a method. */
public final class QueryEdgesTest {
    private static final int HIDDEN = -1000000000;
    private static final String[] WHOLE_QUERY = {"many", "not", "(", "tube", "<", "3", "or", "not", "leg", "=", "1", ")",
        "and", "(", "bore", ">", "2", "and", "column", "=", "0", ")", "or", "pressure", ">", "state"};

    public static void main(String[] args) {
        atMost200Bytes();
        readsTheFirstBytesAlone();
        theBufferIsEmptyBehindQuery();
        nothingElseChanges();
        manyFromNoneToTwelve();
        firstFromTheFirstToTheLast();
        withoutTubes();
        numbersTo999999();
        numbersThatWrapAround();
        comparisonsAtTheEdge();
        everyPropertyAtItsEdge();
        statesAndColumns();
        pressureIsThatOfThePoint();
        sixNotsAndTheSeventh();
        sixParenthesesAndTheSeventh();
        bothKindsTogether();
        aNotIsOpenUntilTheEndOfItsFactor();
        aParenthesisIsOpenUntilItsEnd();
        theSeventhWhereItIsNotAllowed();
        andBindsCloserThanOr();
        manyParts();
        everyByteBehindATest();
        everyTokenSpoiled();
        everyTokenLeftOut();
        theTextEndsTooEarly();
        wordsThatAreNoProperties();
        wordsCutByTheLength();
        everyByteBehindAWord();
        theFirstErrorAlongTheText();
        Checks.end();
    }

    /**
     * Twelve tubes in two legs at three points; the tubes 4 and 10 are blown, so that the level of leg 0 sinks and sucks
     * all others in it; in leg 1 the tubes 3 and 9 are sucked.
     */
    private static SlantGauges twelve() {
        StringBuilder text = new StringBuilder("gauges 3 50000; pressure 1 50001; pressure 2 40000;");
        for (int k = 0; k < 12; k++) {
            int point = k % 6 == 3 ? 1 : k % 6 == 4 ? 2 : 0;
            text.append("tube ").append(k % 2).append(' ').append(point).append(' ').append(k + 1).append(' ')
                    .append(100 + k).append(' ').append(10 + k).append(';');
        }
        return Checks.loaded(text.toString());
    }

    private static void answers(String text, int want) {
        SlantGauges row = twelve();
        Checks.due(text, Checks.query(row, text), want);
        Checks.due("no error in " + text, row.errorPosition(), -1);
    }

    private static void error(String text, int code, int position) {
        SlantGauges row = twelve();
        Checks.due(text, Checks.query(row, text), HIDDEN - code);
        Checks.due("errorPosition of " + text, row.errorPosition(), position);
    }

    // ---- the text of a query ----

    private static void atMost200Bytes() {
        String end = "tube = 11";
        String text = "first " + " ".repeat(200 - 6 - end.length()) + end;
        answers(text, 11);
        SlantGauges row = twelve();
        Checks.feed(row, text + "0");
        Checks.refused(row, "query(201)", "IllegalArgumentException", () -> row.query(201));
        Checks.due("query(200) behind it", row.query(200), 11);
        error(" ".repeat(200), 1, 200);
        error(" ".repeat(199) + "x", 1, 199);
    }

    private static void readsTheFirstBytesAlone() {
        SlantGauges row = twelve();
        Checks.feed(row, "first tube = 111");
        Checks.due("15 bytes", row.query(15), 11);
        Checks.feed(row, "first tube = 111");
        Checks.due("16 bytes", row.query(16), -1);
        Checks.feed(row, "first tube = 111");
        Checks.due("13 bytes", row.query(13), HIDDEN - 1);
        Checks.due("their end", row.errorPosition(), 13);
        Checks.feed(row, "first tube = 111");
        Checks.due("none", row.query(0), HIDDEN - 1);
        Checks.due("their end", row.errorPosition(), 0);
    }

    private static void theBufferIsEmptyBehindQuery() {
        SlantGauges row = twelve();
        Checks.feed(row, "many 1 = 1" + " ".repeat(200));
        Checks.due("query", row.query(10), 12);
        Checks.refused(row, "what was not read is gone, too", "IllegalArgumentException", () -> row.query(1));
        Checks.due("feed behind query", row.feed(0, 0, 0, 0, 0), 20);
        Checks.due("an error", row.query(20), HIDDEN - 1);
        Checks.refused(row, "also behind an error", "IllegalArgumentException", () -> row.query(1));
        Checks.due("feed behind an error", row.feed(0, 0, 0, 0, 0), 20);
    }

    private static void nothingElseChanges() {
        for (String text : new String[] {"many not (state = 0)", "first 1 = 2", "many (((((((1 = 1)))))))", "first 1000000 = 1"}) {
            SlantGauges row = recorded();
            Checks.query(row, text);
            Checks.query(row, "x");
            SlantGauges twin = recorded();
            Checks.query(twin, "x");
            Checks.due("all behind " + text, Checks.everything(row), Checks.everything(twin));
        }
    }

    private static SlantGauges recorded() {
        SlantGauges row = Checks.loaded("gauges 2 50000; tube 0 0 2 500 90; pressure 0 49000;");
        row.setPressure(1, 3);
        row.saveSnapshot();
        row.setMark(0);
        row.format(0);
        return row;
    }

    // ---- the answers ----

    private static void manyFromNoneToTwelve() {
        answers("many tube > 11", 0);
        answers("many tube > 10", 1);
        answers("many tube > 0", 11);
        answers("many not tube = 12", 12);
    }

    private static void firstFromTheFirstToTheLast() {
        answers("first 0 = 0", 0);
        answers("first tube > 0", 1);
        answers("first tube > 10", 11);
        answers("first tube > 11", -1);
        answers("first tube = 7 or tube = 5", 5);
    }

    private static void withoutTubes() {
        SlantGauges row = new SlantGauges();
        Checks.due("many of none", Checks.query(row, "many 1 = 1"), 0);
        Checks.due("first of none", Checks.query(row, "first 1 = 1"), -1);
        Checks.due("many of none", Checks.query(row, "many not pressure = 50000"), 0);
        Checks.due("first of none", Checks.query(row, "first not state = 0"), -1);
        Checks.due("an error without tubes", Checks.query(row, "many 1 = 1000000"), HIDDEN - 2);
    }

    // ---- values ----

    private static void numbersTo999999() {
        answers("many 999999 = 999999", 12);
        answers("many 999999 > 999998", 12);
        answers("many 0 = 000", 12);
        answers("many 0000000000000000000999999 = 999999", 12);
        error("many 1000000 = 1", 2, 5);
        error("many 1 = 1000000", 2, 9);
        error("many 0001000000 = 1", 2, 5);
        error("many not (1 = 1 and 2 < 1000000)", 2, 24);
        error("many -1 < 1", 1, 5);
        error("many 1 = -1", 1, 9);
    }

    private static void numbersThatWrapAround() {
        for (String number : new String[] {"2147483647", "2147483648", "4294967296", "4294967297", "9223372036854775808",
            "18446744073709551616", "18446744073709551617", "9".repeat(180)}) {
            error("many " + number + " = 1", 2, 5);
            error("many 1 = " + number, 2, 9);
        }
    }

    private static void comparisonsAtTheEdge() {
        answers("many 4 < 5", 12);
        answers("many 5 < 5", 0);
        answers("many 6 < 5", 0);
        answers("many 4 = 5", 0);
        answers("many 5 = 5", 12);
        answers("many 6 = 5", 0);
        answers("many 4 > 5", 0);
        answers("many 5 > 5", 0);
        answers("many 6 > 5", 12);
    }

    /** One tube, whose properties are all known; each is compared with the number below, its own and the one above. */
    private static void everyPropertyAtItsEdge() {
        String text = "gauges 4 50000; leg 1 1000 99999 0; tube 0 0 1 50 10; tube 1 3 7 250 45; pressure 3 49900;";
        String[] names = {"tube", "leg", "point", "bore", "slant", "length", "state", "column", "pressure"};
        int[] values = {1, 1, 3, 7, 250, 45, 0, 396, 49900};
        for (int k = 0; k < names.length; k++) {
            for (int apart = values[k] > 0 ? -1 : 0; apart <= 1; apart++) {
                SlantGauges row = Checks.loaded(text);
                String test = "many tube = 1 and " + names[k];
                int number = values[k] + apart;
                Checks.due(test + " <", Checks.query(row, test + "<" + number), apart > 0 ? 1 : 0);
                Checks.due(test + " =", Checks.query(row, test + "=" + number), apart == 0 ? 1 : 0);
                Checks.due(test + " >", Checks.query(row, test + ">" + number), apart < 0 ? 1 : 0);
                Checks.due("the other way", Checks.query(row, "many tube = 1 and " + number + "<" + names[k]), apart < 0 ? 1 : 0);
            }
        }
    }

    private static void statesAndColumns() {
        answers("many state = 0", 4);
        answers("first state = 0", 1);
        answers("many state = 1", 6);
        answers("first state = 1 and leg = 1", 3);
        answers("many state = 2", 2);
        answers("first state = 2", 4);
        answers("many state = 3", 0);
        answers("many state > 0 and column = 0", 8);
        answers("many pressure = 50001", 2);
        answers("many pressure = 40000", 2);
    }

    /** By the density 20000 a pull of less than 20 units is cut off: the tube tells 50000 all the same. */
    private static void pressureIsThatOfThePoint() {
        String text = "gauges 2 50000; leg 0 20000 99999 0; tube 0 1 1 1000 10; pressure 1 49990;";
        Checks.due("what it tells", Checks.loaded(text).told(0), 50000);
        Checks.due("its point", Checks.query(Checks.loaded(text), "many pressure = 49990"), 1);
        Checks.due("what it tells", Checks.query(Checks.loaded(text), "many pressure = 50000"), 0);
    }

    // ---- nesting ----

    private static void sixNotsAndTheSeventh() {
        answers("many not not not not not not tube < 5", 5);
        answers("many not not not not not tube < 5", 7);
        error("many not not not not not not not tube < 5", 3, 29);
        error("many not not not not not not not", 3, 29);
        error("many not not not not not not %", 1, 29);
        error("many not not not not not not", 1, 28);
    }

    private static void sixParenthesesAndTheSeventh() {
        answers("many ((((((tube < 5))))))", 5);
        error("many (((((((tube < 5)))))))", 3, 11);
        error("many (((((((", 3, 11);
        error("many ((((((", 1, 11);
        error("many ((((((tube < 5)))))", 1, 24);
        error("many ((((((tube < 5)))))))", 1, 25);
    }

    private static void bothKindsTogether() {
        answers("many not (not (not (tube < 5)))", 7);
        error("many not (not (not (not tube < 5)))", 3, 20);
        error("many not (not (not ((tube < 5))))", 3, 20);
        error("many ((((((not tube < 5))))))", 3, 11);
        error("many not not not not not not (tube < 5)", 3, 29);
        answers("many (((((not tube < 5)))))", 7);
        answers("many not not not not not (tube < 5)", 7);
    }

    private static void aNotIsOpenUntilTheEndOfItsFactor() {
        answers("many not not not not not not 1 = 1 and not not not not not not tube < 5", 5);
        answers("many not not not not not not tube < 5 or not not not not not not tube > 9", 7);
        answers("many not (tube < 5) and ((((((tube > 9))))))", 2);
        answers("many (not tube < 5 and (((((tube > 9))))))", 2);
        error("many (not tube < 5 and ((((((tube > 9)))))))", 3, 28);
        answers("many (not not not not not tube < 5 and not not not not not tube < 9)", 3);
        error("many (not not not not not tube < 5 and not not not not not not tube < 9)", 3, 59);
        error("many (not (not tube < 5 and not (not (not tube = 2))))", 3, 37);
        answers("many (not (not tube < 5 and not (not tube = 2)))", 12);
    }

    private static void aParenthesisIsOpenUntilItsEnd() {
        answers("many (1 = 1) and ((((((tube < 5))))))", 5);
        answers("many ((((((tube < 5)))))) or ((((((tube > 9))))))", 7);
        answers("many (((((tube < 5) and (tube > 1)) and (tube > 2)) or (tube = 9)) and ((((tube > 3)))))", 2);
        error("many ((1 = 1) and ((((((tube < 5)))))))", 3, 23);
        answers("many ((1 = 1) and (((((tube < 5))))))", 5);
    }

    /** Where neither stands at its place, the smaller code is told. */
    private static void theSeventhWhereItIsNotAllowed() {
        error("many ((((((1 not = 1))))))", 1, 13);
        error("many ((((((1 = (", 1, 15);
        error("many ((((((1 = 1 (", 1, 17);
        error("many ((((((1 = 1 not", 1, 17);
        error("many ((((((1 = not", 1, 15);
        error("(((((((1 = 1", 1, 0);
        error("not 1 = 1", 1, 0);
    }

    // ---- the grammar ----

    private static void andBindsCloserThanOr() {
        answers("many tube = 1 or tube < 5 and tube > 3", 2);
        answers("many tube < 5 and tube > 3 or tube = 1", 2);
        answers("many (tube = 1 or tube < 5) and tube > 3", 1);
        answers("many not tube < 5 and tube < 7", 2);
        answers("many not (tube < 5 and tube < 7)", 7);
        answers("many not tube < 5 or tube < 2", 9);
    }

    private static void manyParts() {
        answers("many 1=1" + " and 1=1".repeat(24), 12);
        answers("many 1=2" + " or tube=3".repeat(19), 1);
        answers("many tube=0 or tube=1 or tube=2 or tube=3 or tube=4 or tube=5 or tube=6 or tube=7 or tube=8 or tube=9"
                + " or tube=10 or tube=11", 12);
        answers("many tube>0 and tube>1 and tube>2 and tube>3 and tube>4 and tube>5 and tube>6 and tube>7 and tube>8", 3);
    }

    private static void everyByteBehindATest() {
        for (int sign = 0; sign <= 255; sign++) {
            String text = "many tube < 5" + (char) sign;
            if (sign == 32 || sign == 10) {
                answers(text, 5);
            } else if (sign >= '0' && sign <= '9') {
                answers(text, 12);
            } else {
                error(text, 1, 13);
            }
            error((char) sign + " many tube < 5", 1, sign == 32 || sign == 10 ? 15 : 0, sign == 32 || sign == 10);
        }
    }

    private static void error(String text, int code, int position, boolean none) {
        if (none) {
            answers(text, 5);
        } else {
            error(text, code, position);
        }
    }

    private static String joined(String[] tokens, int count) {
        StringBuilder text = new StringBuilder();
        for (int k = 0; k < count; k++) {
            text.append(tokens[k]).append(' ');
        }
        return text.toString();
    }

    private static void everyTokenSpoiled() {
        for (String spoiled : new String[] {"%", "zz", ";", "-", "mark", "gauges", "\t", "\u00ff"}) {
            for (int k = 0; k < WHOLE_QUERY.length; k++) {
                String[] tokens = WHOLE_QUERY.clone();
                tokens[k] = spoiled;
                error(joined(tokens, tokens.length), 1, joined(tokens, k).length());
            }
        }
    }

    /** Without a not or a pair of parentheses the rest may be a query; without any other token it is none. */
    private static void everyTokenLeftOut() {
        error("tube < 3", 1, 0);
        error("many < 3", 1, 5);
        error("many tube 3", 1, 10);
        error("many tube <", 1, 11);
        error("many tube < 3 leg = 1", 1, 14);
        error("many or tube < 3", 1, 5);
        error("many tube < 3 or", 1, 16);
        error("many tube < 3 and", 1, 17);
        error("many tube < 3 and or leg = 1", 1, 18);
        error("many tube < 3)", 1, 13);
        error("many (tube < 3", 1, 14);
        error("many ()", 1, 6);
        error("many (tube) < 3", 1, 10);
        error("many tube < (3)", 1, 12);
        error("many 1 < 2 < 3", 1, 11);
    }

    private static void theTextEndsTooEarly() {
        error("", 1, 0);
        error("\n \n", 1, 3);
        error("many", 1, 4);
        error("first  ", 1, 7);
        error("many not ", 1, 9);
        error("many ( ", 1, 7);
        error("many tube ", 1, 10);
        error("many tube < ", 1, 12);
        error("many tube < 3 and ", 1, 18);
        error("many (tube < 3 ", 1, 15);
    }

    private static void wordsThatAreNoProperties() {
        for (String word : new String[] {"mark", "reading", "pull", "meniscus", "reference", "tubes", "tub", "legs", "le",
            "points", "slants", "states", "columns", "pressures", "many", "first", "and", "or", "whole", "TUBE"}) {
            error("many " + word + " = 1", 1, 5);
            error("many 1 = " + word, 1, 9);
        }
        error("Many 1 = 1", 1, 0);
        error("man 1 = 1", 1, 0);
        error("firsts 1 = 1", 1, 0);
        error("many first 1 = 1", 1, 5);
        error("many nott 1 = 1", 1, 5);
        error("many 1 = 1 andd 1 = 1", 1, 11);
        error("many 1 = 1 o 1 = 1", 1, 11);
        answers("many not1=2and not 2=3or 4=5", 12);
    }

    /** What stands behind the length in the buffer makes no word whole. */
    private static void wordsCutByTheLength() {
        String text = "many not tube = column or leg = 1";
        int[] lengths = {1, 3, 6, 11, 21, 24, 28};
        int[] positions = {0, 0, 5, 9, 16, 23, 26};
        for (int k = 0; k < lengths.length; k++) {
            SlantGauges row = twelve();
            Checks.feed(row, text);
            Checks.due(lengths[k] + " bytes of " + text, row.query(lengths[k]), HIDDEN - 1);
            Checks.due("their error", row.errorPosition(), positions[k]);
        }
    }

    private static void everyByteBehindAWord() {
        for (int sign = 0; sign <= 255; sign++) {
            String text = "many tube" + (char) sign + " = 1";
            if (sign == 32 || sign == 10) {
                answers(text, 1);
            } else if (sign >= 'a' && sign <= 'z') {
                error(text, 1, 5);
            } else if (sign == '<' || sign == '=' || sign == '>') {
                error(text, 1, 11);
            } else {
                error(text, 1, 9);
            }
        }
    }

    private static void theFirstErrorAlongTheText() {
        error("many 1000000 % 1", 2, 5);
        error("many % 1000000", 1, 5);
        error("many 1 = 1000000 %", 2, 9);
        error("many 1 % 1000000", 1, 7);
        error("many (((((((1000000 = %", 3, 11);
        error("many 1000000 = 1 and (((((((1 = 1", 2, 5);
        error("many 1 1000000 = 1", 1, 7);
    }
}

import java.util.NoSuchElementException;

/** What the tests share: comparing answers, expecting exceptions, feeding texts. */
final class Checks {
    interface Call {
        Object go();
    }

    interface Maker {
        SlantGauges make();
    }

    interface CallOn {
        Object go(SlantGauges row);
    }

    private static int checked = 0;
    private static int wrong = 0;

    private Checks() {
    }

    static void due(String call, Object got, Object want) {
        checked++;
        if (!want.equals(got)) {
            wrong++;
            System.out.println(call + " answered " + got + ", due is " + want);
        }
    }

    static void due(String call, int got, int want) {
        due(call, (Object) got, (Object) want);
    }

    static void due(String call, long got, long want) {
        due(call, (Object) got, (Object) want);
    }

    static void noSuch(String call, Call made) {
        due(call, answerOf(made), (Object) "NoSuchElementException");
    }

    static void illegal(String call, Call made) {
        due(call, answerOf(made), (Object) "IllegalArgumentException");
    }

    /** The answer, or the simple name of the exception that came instead. */
    static Object answerOf(Call made) {
        try {
            return made.go();
        } catch (NoSuchElementException | IllegalArgumentException e) {
            return e.getClass().getSimpleName();
        }
    }

    /** Feeds a text, filled up with spaces to whole portions of 20 bytes. */
    static int feed(SlantGauges row, String text) {
        StringBuilder padded = new StringBuilder(text);
        while (padded.length() % 20 != 0) {
            padded.append(' ');
        }
        int answer = SlantGauges.NONE;
        for (int k = 0; k < padded.length(); k += 20) {
            answer = row.feed(four(padded, k), four(padded, k + 4), four(padded, k + 8), four(padded, k + 12),
                    four(padded, k + 16));
        }
        return answer;
    }

    private static int four(StringBuilder text, int at) {
        int bytes = 0;
        for (int k = 0; k < 4; k++) {
            bytes = bytes << 8 | text.charAt(at + k) & 255;
        }
        return bytes;
    }

    static int load(SlantGauges row, String text) {
        feed(row, text);
        return row.load(text.length());
    }

    static SlantGauges loaded(String text) {
        SlantGauges row = new SlantGauges();
        if (load(row, text) < 0) {
            due("load of " + text, "an error at " + row.errorPosition(), "no error");
        }
        return row;
    }

    static int query(SlantGauges row, String text) {
        feed(row, text);
        return row.query(text.length());
    }

    static String formatted(SlantGauges row, int tube) {
        return formattedText(row, row.format(tube));
    }

    static String formattedText(SlantGauges row, int length) {
        StringBuilder text = new StringBuilder();
        for (int k = 0; k < length; k++) {
            text.append((char) row.formattedByte(k));
        }
        return text.toString();
    }

    /** Everything that the face shows of a row, to compare two moments by. */
    static String picture(SlantGauges row) {
        StringBuilder seen = new StringBuilder();
        for (int what = 0; what <= 7; what++) {
            seen.append(row.size(what)).append(' ');
        }
        for (int point = 0; point < row.size(0); point++) {
            seen.append(row.pressure(point)).append(' ');
        }
        for (int leg = 0; leg < 2; leg++) {
            for (int what = 0; what <= 3; what++) {
                seen.append(row.leg(leg, what)).append(' ');
            }
            for (int what = 0; what <= 4; what++) {
                seen.append(row.account(leg, what)).append(' ');
            }
        }
        for (int tube = 0; tube < row.size(2); tube++) {
            seen.append('\n');
            for (int what = 0; what <= 10; what++) {
                seen.append(row.tube(tube, what)).append(' ');
            }
        }
        return seen.toString();
    }

    /** The picture and what stands beside it: a call that changes nothing leaves all of this. */
    static String wholePicture(SlantGauges row) {
        return picture(row) + "\nundo " + row.undoCount() + " error " + row.errorPosition();
    }

    /** A call that is refused: its answer is due, and nothing changes. */
    static void refused(SlantGauges row, String call, Object want, Call made) {
        String before = wholePicture(row);
        due(call, answerOf(made), want);
        due(call + " changes nothing", wholePicture(row), before);
    }

    /** Everything that can be got out of a row, its history, snapshot, text and buffer too; the row is used up by it. */
    static String everything(SlantGauges row) {
        StringBuilder seen = new StringBuilder(wholePicture(row));
        seen.append("\ntext ").append(formattedText(row, formattedLength(row)));
        int kept = row.undoCount();
        for (int k = 0; k < kept; k++) {
            seen.append("\nundo ").append(row.undo()).append(' ').append(picture(row));
        }
        seen.append("\nrestore ").append(row.restoreSnapshot()).append(' ').append(picture(row));
        int bytes = feed(row, " ");
        seen.append("\nbuffer ").append(bytes);
        seen.append("\nload ").append(row.load(bytes == SlantGauges.NONE ? 600 : bytes)).append(' ');
        return seen.append(wholePicture(row)).toString();
    }

    private static int formattedLength(SlantGauges row) {
        int length = 0;
        while (length < 100 && row.formattedByte(length) != SlantGauges.NONE) {
            length++;
        }
        return length;
    }

    /** A call answers what is due, and leaves everything as it is on a row without it. */
    static void unchanged(String call, Maker maker, Object want, CallOn made) {
        SlantGauges row = maker.make();
        due(call, answerOf(() -> made.go(row)), want);
        due(call + " changes nothing", everything(row), everything(maker.make()));
    }

    static void end() {
        System.out.println(checked + " checks, " + wrong + " wrong");
        if (wrong != 0 || checked == 0) {
            System.exit(1);
        }
    }
}

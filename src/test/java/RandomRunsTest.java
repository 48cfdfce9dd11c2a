import java.lang.reflect.InvocationTargetException;
import java.lang.reflect.Method;
import java.util.ArrayList;
import java.util.Comparator;
import java.util.List;
import java.util.Random;

/** Random runs of calls on the class and on the plain model; every answer and every exception must be the same. */
public final class RandomRunsTest {
    private static final int RUNS = 1500;
    private static final String[] PROPERTIES =
            {"tube", "leg", "point", "bore", "slant", "length", "state", "column", "pressure"};
    private static final String[] PIECES = {"gauges", "leg", "tube", "pressure", "mark", "many", "first", "not", "and",
        "or", "state", "column", ";", "-", "(", ")", "<", "=", ">", "0", "1", "12", "00007", "99999", "1000000",
        "99999999999999999999", "x", "A", "_", "\t", "\n", "\u00e9", " "};

    private final Random random;
    private final SlantGauges row = new SlantGauges();
    private final PlainGauges plain = new PlainGauges();
    private final List<String> calls = new ArrayList<>();
    private final boolean wild;
    private int points = 2;

    private RandomRunsTest(long seed) {
        random = new Random(seed);
        wild = random.nextInt(5) == 0;
    }

    private static final Method[] METHODS = methods();

    private static Method[] methods() {
        List<Method> found = new ArrayList<>();
        for (Method method : PlainGauges.class.getDeclaredMethods()) {
            if (java.lang.reflect.Modifier.isPublic(method.getModifiers())) {
                found.add(method);
            }
        }
        found.sort(Comparator.comparing(Method::getName));
        return found.toArray(new Method[0]);
    }

    public static void main(String[] args) throws Exception {
        int steps = 0;
        int runs = args.length > 0 ? Integer.parseInt(args[0]) : RUNS;
        long first = args.length > 1 ? Long.parseLong(args[1]) : 0;
        for (int run = 0; run < runs; run++) {
            RandomRunsTest test = new RandomRunsTest(first + run);
            if (!test.go()) {
                System.out.println("seed " + (first + run));
                System.exit(1);
            }
            steps += test.calls.size();
        }
        System.out.println(runs + " random runs, " + steps + " calls alike");
    }

    private boolean go() throws Exception {
        feedBoth(text());
        boolean same = both("load", lastFed);
        for (int k = 0; k < 130 && same; k++) {
            points = row.size(0);
            same = step();
        }
        same = same && samePicture();
        if (!same) {
            calls.forEach(System.out::println);
        }
        return same;
    }

    private int lastFed;

    private boolean step() throws Exception {
        int choice = random.nextInt(40);
        if (choice == 0) {
            feedBoth(random.nextInt(3) == 0 ? spoiled(text()) : text());
            return both("load", nearly(lastFed)) && both("errorPosition");
        }
        if (choice <= 3) {
            feedBoth(random.nextInt(3) == 0 ? spoiled(query()) : query());
            return both("query", nearly(lastFed)) && both("errorPosition");
        }
        if (choice == 4) {
            return samePicture();
        }
        Method method = METHODS[random.nextInt(METHODS.length)];
        return both(method.getName(), arguments(method.getName()));
    }

    private int nearly(int length) {
        return random.nextInt(15) == 0 ? length + random.nextInt(60) - 30 : length;
    }

    private boolean samePicture() throws Exception {
        boolean same = both("ring") && both("longest") && both("worst") && both("meanReading") && both("wholeShare");
        for (int what = 0; what <= 7; what++) {
            same = same && both("size", what);
        }
        for (int leg = 0; leg < 2; leg++) {
            for (int what = 0; what <= 4; what++) {
                same = same && both("leg", leg, what) && both("account", leg, what);
            }
        }
        for (int tube = 0; tube < row.size(2); tube++) {
            for (int what = 0; what <= 10; what++) {
                same = same && both("tube", tube, what);
            }
            same = same && both("told", tube) && both("off", tube) && both("room", tube) && both("bestSlant", tube)
                    && both("difference", tube, random.nextInt(12));
        }
        return same;
    }

    private boolean both(String name, Object... arguments) throws Exception {
        Object due = answer(plain, name, arguments);
        Object got = answer(row, name, arguments);
        StringBuilder call = new StringBuilder(name).append(java.util.Arrays.toString(arguments));
        calls.add(call.append(" = ").append(got).toString());
        if (due == null ? got != null : !due.equals(got)) {
            System.out.println(call + ", due is " + due);
            return false;
        }
        return true;
    }

    private static Object answer(Object on, String name, Object... arguments) throws Exception {
        Class<?>[] types = new Class<?>[arguments.length];
        java.util.Arrays.fill(types, int.class);
        try {
            return on.getClass().getMethod(name, types).invoke(on, arguments);
        } catch (InvocationTargetException e) {
            return e.getCause().getClass().getName();
        }
    }

    private void feedBoth(String text) throws Exception {
        lastFed = text.length();
        StringBuilder padded = new StringBuilder(text);
        while (padded.length() % 20 != 0) {
            padded.append(random.nextInt(4) == 0 ? ';' : ' ');
        }
        for (int k = 0; k < padded.length(); k += 20) {
            Object[] words = new Object[5];
            for (int w = 0; w < 5; w++) {
                int bytes = 0;
                for (int b = 0; b < 4; b++) {
                    bytes = bytes << 8 | padded.charAt(k + 4 * w + b) & 255;
                }
                words[w] = bytes;
            }
            both("feed", words);
        }
    }

    // ---- arguments ----

    private Object[] arguments(String name) {
        switch (name) {
            case "feed": return new Object[] {any(), any(), any(), any(), any()};
            case "load": case "query": return new Object[] {random.nextInt(40) - 5};
            case "size": return new Object[] {odd(0, 7)};
            case "pressure": return new Object[] {point()};
            case "leg": return new Object[] {leg(), odd(0, 3)};
            case "account": return new Object[] {leg(), odd(0, 4)};
            case "tube": return new Object[] {tube(), odd(0, 10)};
            case "told": case "off": case "room": case "bestSlant": case "setMark": case "mend": case "dropTube":
            case "format": return new Object[] {tube()};
            case "difference": return new Object[] {tube(), tube()};
            case "agree": return new Object[] {point(), random.nextBoolean() ? odd(0, 99999) : odd(0, 4)};
            case "wouldBreak": case "setPressure": return new Object[] {point(), pressure()};
            case "readingWith": return new Object[] {tube(), point(), pressure()};
            case "breaksIn": return new Object[] {point(), random.nextBoolean() ? odd(-9999, 9999) : odd(-300, 300)};
            case "lostWith": case "setReference": return new Object[] {pressure()};
            case "sweep": return new Object[] {point(), pressure(), odd(1, 50)};
            case "setSlant": return new Object[] {tube(), odd(50, 1000)};
            case "setCurve": return new Object[] {leg(), odd(-9999, 9999)};
            case "refill": return new Object[] {leg(), random.nextInt(3) > 0 ? odd(1, 9999999) : odd(1, 99999999)};
            case "addTube": return new Object[] {leg(), point(), odd(1, 20), slant(), length()};
            case "formattedByte": return new Object[] {odd(0, 20)};
            default: return new Object[0];
        }
    }

    private int any() {
        return random.nextInt();
    }

    /** Mostly within the range, sometimes at or just behind its ends, seldom far off. */
    private int odd(int least, int most) {
        switch (random.nextInt(30)) {
            case 0: return least;
            case 1: return most;
            case 2: return least - 1;
            case 3: return most + 1;
            case 4: return random.nextInt(20) == 0 ? Integer.MIN_VALUE : least;
            case 5: return random.nextInt(20) == 0 ? Integer.MAX_VALUE : most;
            default: return within(least, most);
        }
    }

    private int within(int least, int most) {
        return least + random.nextInt(most - least + 1);
    }

    private int leg() {
        return odd(0, 1);
    }

    private int point() {
        return odd(0, points - 1);
    }

    private int tube() {
        return odd(0, Math.max(0, row.size(2) - 1));
    }

    private int slant() {
        return random.nextBoolean() ? odd(50, 1000) : odd(300, 1000);
    }

    private int length() {
        return wild ? odd(10, 2000) : odd(500, 2000);
    }

    private int pressure() {
        return wild || random.nextInt(8) == 0 ? odd(0, 99999) : odd(44000, 50500);
    }

    // ---- texts ----

    private String space() {
        return random.nextInt(10) == 0 ? "  \n" : " ";
    }

    private String joined(Object... parts) {
        StringBuilder text = new StringBuilder();
        for (Object part : parts) {
            text.append(part).append(space());
        }
        return text.toString();
    }

    private String signed(int most) {
        int n = within(-most, most);
        return n < 0 || random.nextInt(20) == 0 ? "-" + Math.abs(n) : Integer.toString(n);
    }

    private String text() {
        int count = within(2, 8);
        StringBuilder text = new StringBuilder(joined("gauges", count, wild ? within(0, 99999) : 50000, ";"));
        int clauses = random.nextInt(16);
        for (int k = 0; k < clauses && text.length() < 560; k++) {
            int choice = random.nextInt(10);
            if (choice == 0) {
                int density = wild ? within(100, 20000) : within(700, 1800);
                text.append(joined("leg", within(0, 1), density, within(100, 99999), signed(wild ? 9999 : 300)));
            } else if (choice <= 3) {
                text.append(joined("pressure", within(0, count - 1), wild ? within(0, 99999) : within(44000, 50500)));
            } else {
                text.append(joined("tube", within(0, 1), within(0, count - 1), within(1, wild ? 20 : 8),
                        within(wild ? 50 : 300, 1000), within(wild ? 10 : 200, 2000)));
                text.append(random.nextInt(3) == 0 ? joined("mark", signed(9999)) : "");
            }
            text.append(";").append(space());
        }
        return text.length() > 600 ? text.substring(0, 600) : text.toString();
    }

    private String query() {
        String text = joined(random.nextBoolean() ? "many" : "first", test(random.nextInt(8)));
        return text.length() > 230 ? text.substring(0, 230) : text;
    }

    private String test(int deep) {
        StringBuilder text = new StringBuilder(factor(deep));
        int more = random.nextInt(3);
        for (int k = 0; k < more; k++) {
            text.append(joined(random.nextBoolean() ? "and" : "or", factor(random.nextInt(deep + 1))));
        }
        return text.toString();
    }

    private String factor(int deep) {
        if (deep > 0) {
            return random.nextBoolean() ? joined("not", factor(deep - 1)) : joined("(", test(deep - 1), ")");
        }
        return joined(value(), random.nextInt(3) == 0 ? "<" : random.nextBoolean() ? ">" : "=", value());
    }

    private String value() {
        switch (random.nextInt(6)) {
            case 0: return Integer.toString(within(0, 12));
            case 1: return Integer.toString(within(0, 2000));
            case 2: return Integer.toString(odd(0, 999999));
            default: return PROPERTIES[random.nextInt(PROPERTIES.length)];
        }
    }

    private String spoiled(String text) {
        StringBuilder spoiled = new StringBuilder(text);
        int times = 1 + random.nextInt(2);
        for (int k = 0; k < times && spoiled.length() > 0; k++) {
            int at = random.nextInt(spoiled.length());
            String piece = PIECES[random.nextInt(PIECES.length)];
            switch (random.nextInt(4)) {
                case 0: spoiled.deleteCharAt(at); break;
                case 1: spoiled.insert(at, piece); break;
                case 2: spoiled.replace(at, at + 1, piece); break;
                default: spoiled.setLength(at);
            }
        }
        return spoiled.length() > 600 ? spoiled.substring(0, 600) : spoiled.toString();
    }
}

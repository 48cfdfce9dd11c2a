import java.util.ArrayDeque;
import java.util.ArrayList;
import java.util.Deque;
import java.util.List;
import java.util.NoSuchElementException;
import java.util.regex.Matcher;
import java.util.regex.Pattern;

/** The document once more, in the plainest way and apart from the class: random runs are compared with it. */
public final class PlainGauges {
    static final class Tube {
        int leg, point, bore, slant, length, mark, state;

        Tube copy() {
            Tube t = new Tube();
            t.leg = leg;
            t.point = point;
            t.bore = bore;
            t.slant = slant;
            t.length = length;
            t.mark = mark;
            t.state = state;
            return t;
        }
    }

    static final class World {
        int reference;
        int[] pressures;
        int[] density = {1000, 1000};
        int[] area = {10000, 10000};
        int[] curve = {0, 0};
        long[] stock = {0, 0};
        long[] lost = {0, 0};
        long[] filled = {0, 0};
        List<Tube> tubes = new ArrayList<>();

        World(int points, int reference) {
            this.reference = reference;
            pressures = new int[points];
            java.util.Arrays.fill(pressures, 50000);
        }

        World copy() {
            World w = new World(pressures.length, reference);
            w.pressures = pressures.clone();
            w.density = density.clone();
            w.area = area.clone();
            w.curve = curve.clone();
            w.stock = stock.clone();
            w.lost = lost.clone();
            w.filled = filled.clone();
            for (Tube t : tubes) {
                w.tubes.add(t.copy());
            }
            return w;
        }

        int pull(Tube t) {
            return (reference - pressures[t.point]) * 1000 / density[t.leg];
        }

        int meniscus(Tube t) {
            return curve[t.leg] / t.bore;
        }

        long run(Tube t, long level) {
            return (level + pull(t) + meniscus(t)) * 1000 / t.slant;
        }

        long column(Tube t, long level) {
            if (t.state != 0) {
                return 0;
            }
            long run = run(t, level);
            return run < 0 ? 0 : run > 100L * t.length ? 100L * t.length : run;
        }

        long volumes(int leg, long level) {
            long sum = 0;
            for (Tube t : tubes) {
                if (t.leg == leg) {
                    sum += column(t, level) * t.bore * t.bore;
                }
            }
            return sum;
        }

        long level(int leg) {
            long fits = -20000000000L;
            long tooMuch = 20000000000L;
            while (tooMuch - fits > 1) {
                long between = (fits + tooMuch) / 2;
                if (area[leg] * between + volumes(leg, between) <= stock[leg]) {
                    fits = between;
                } else {
                    tooMuch = between;
                }
            }
            return fits;
        }

        int column(Tube t) {
            return (int) column(t, level(t.leg));
        }

        int reading(Tube t) {
            return column(t) / 10 + t.mark;
        }

        int settle() {
            int all = 0;
            for (int leg = 0; leg < 2; leg++) {
                int now;
                do {
                    now = 0;
                    long level = level(leg);
                    for (Tube t : tubes) {
                        if (t.leg != leg || t.state != 0) {
                            continue;
                        }
                        if (run(t, level) < 0) {
                            t.state = 1;
                            now++;
                        } else if (run(t, level) > 100L * t.length) {
                            t.state = 2;
                            now++;
                            long gone = 100L * t.length * t.bore * t.bore;
                            stock[leg] -= gone;
                            lost[leg] += gone;
                        }
                    }
                    all += now;
                } while (now > 0);
            }
            return all;
        }

        int told(Tube t) {
            long rise = (long) column(t) * t.slant / 1000 - level(t.leg) - meniscus(t);
            return (int) (reference - rise * density[t.leg] / 1000);
        }

        int difference(Tube a, Tube b) {
            if (a.leg == b.leg) {
                long more = (long) column(b) * b.slant / 1000 - (long) column(a) * a.slant / 1000
                        - meniscus(b) + meniscus(a);
                return (int) (more * density[a.leg] / 1000);
            }
            return told(a) - told(b);
        }
    }

    static final class Wrong extends Exception {
        final int code;
        final int at;

        Wrong(int code, int at) {
            this.code = code;
            this.at = at;
        }
    }

    World world = new World(2, 50000);
    World saved = null;
    Deque<World> undos = new ArrayDeque<>();
    StringBuilder buffer = new StringBuilder();
    int errorAt = -1;
    String text = "";

    // ---- tokens ----

    static final class Token {
        String text;
        int at;
    }

    List<Token> tokens;
    int next;

    void tokenize(int length) {
        String all = buffer.substring(0, length);
        tokens = new ArrayList<>();
        next = 0;
        Matcher m = Pattern.compile("[a-z]+|[0-9]+|[^ \n]", Pattern.DOTALL).matcher(all);
        while (m.find()) {
            Token t = new Token();
            t.text = m.group();
            t.at = m.start();
            tokens.add(t);
        }
        Token end = new Token();
        end.text = "";
        end.at = length;
        tokens.add(end);
    }

    String peek() {
        return tokens.get(next).text;
    }

    int at() {
        return tokens.get(next).at;
    }

    void take(String wanted) throws Wrong {
        if (!peek().equals(wanted)) {
            throw new Wrong(1, at());
        }
        next++;
    }

    boolean has(String wanted) {
        if (peek().equals(wanted)) {
            next++;
            return true;
        }
        return false;
    }

    int number(int low, int high) throws Wrong {
        if (!peek().matches("[0-9]+")) {
            throw new Wrong(1, at());
        }
        java.math.BigInteger n = new java.math.BigInteger(peek());
        if (n.compareTo(java.math.BigInteger.valueOf(low)) < 0 || n.compareTo(java.math.BigInteger.valueOf(high)) > 0) {
            throw new Wrong(2, at());
        }
        next++;
        return n.intValue();
    }

    int signed() throws Wrong {
        return has("-") ? -number(0, 9999) : number(0, 9999);
    }

    World parse() throws Wrong {
        take("gauges");
        int points = number(2, 8);
        int reference = number(0, 99999);
        World w = new World(points, reference);
        take(";");
        while (!peek().equals("")) {
            if (peek().equals("leg")) {
                next++;
                int leg = number(0, 1);
                w.density[leg] = number(100, 20000);
                w.area[leg] = number(100, 99999);
                w.curve[leg] = signed();
            } else if (peek().equals("tube")) {
                if (w.tubes.size() == 12) {
                    throw new Wrong(3, at());
                }
                next++;
                Tube t = new Tube();
                t.leg = number(0, 1);
                t.point = number(0, points - 1);
                t.bore = number(1, 20);
                t.slant = number(50, 1000);
                t.length = number(10, 2000);
                if (has("mark")) {
                    t.mark = signed();
                }
                w.tubes.add(t);
            } else if (peek().equals("pressure")) {
                next++;
                int point = number(0, points - 1);
                w.pressures[point] = number(0, 99999);
            } else {
                throw new Wrong(1, at());
            }
            take(";");
        }
        return w;
    }

    // ---- the face ----

    public int feed(int a, int b, int c, int d, int e) {
        if (buffer.length() + 20 > 600) {
            return -1;
        }
        for (int word : new int[] {a, b, c, d, e}) {
            buffer.append((char) (word >>> 24)).append((char) (word >>> 16 & 255)).append((char) (word >>> 8 & 255))
                    .append((char) (word & 255));
        }
        return buffer.length();
    }

    public int load(int length) {
        need(length >= 0 && length <= buffer.length());
        tokenize(length);
        buffer.setLength(0);
        try {
            world = parse();
        } catch (Wrong e) {
            errorAt = e.at;
            return -10 - e.code;
        }
        errorAt = -1;
        world.settle();
        undos.clear();
        saved = null;
        return count(0);
    }

    public int errorPosition() {
        return errorAt;
    }

    int count(int state) {
        return (int) world.tubes.stream().filter(t -> t.state == state).count();
    }

    static void exists(boolean there) {
        if (!there) {
            throw new NoSuchElementException();
        }
    }

    static void need(boolean inRange) {
        if (!inRange) {
            throw new IllegalArgumentException();
        }
    }

    static void needPressure(int pressure) {
        need(pressure >= 0 && pressure <= 99999);
    }

    void existsPoint(int point) {
        exists(point >= 0 && point < world.pressures.length);
    }

    void existsTube(int tube) {
        exists(tube >= 0 && tube < world.tubes.size());
    }

    static void existsLeg(int leg) {
        exists(leg == 0 || leg == 1);
    }

    public int size(int what) {
        exists(what >= 0 && what <= 7);
        if (what == 0) {
            return world.pressures.length;
        }
        if (what == 1) {
            return world.reference;
        }
        if (what == 2) {
            return world.tubes.size();
        }
        if (what <= 5) {
            return count(what - 3);
        }
        return (int) world.tubes.stream().filter(t -> t.leg == what - 6).count();
    }

    public int pressure(int point) {
        existsPoint(point);
        return world.pressures[point];
    }

    public int leg(int leg, int what) {
        existsLeg(leg);
        exists(what >= 0 && what <= 3);
        return what == 0 ? world.density[leg] : what == 1 ? world.area[leg] : what == 2 ? world.curve[leg]
                : (int) world.level(leg);
    }

    public long account(int leg, int what) {
        existsLeg(leg);
        exists(what >= 0 && what <= 4);
        long volumes = 0;
        for (Tube t : world.tubes) {
            if (t.leg == leg) {
                volumes += (long) world.column(t) * t.bore * t.bore;
            }
        }
        long[] accounts = {world.stock[leg], volumes, world.lost[leg], world.filled[leg],
                world.stock[leg] - world.area[leg] * world.level(leg) - volumes};
        return accounts[what];
    }

    public int tube(int tube, int what) {
        existsTube(tube);
        exists(what >= 0 && what <= 10);
        Tube t = world.tubes.get(tube);
        int[] numbers = {t.leg, t.point, t.bore, t.slant, t.length, t.mark, t.state, world.column(t),
                world.reading(t), world.pull(t), world.meniscus(t)};
        return numbers[what];
    }

    public int told(int tube) {
        existsTube(tube);
        Tube t = world.tubes.get(tube);
        return t.state == 0 ? world.told(t) : -1000000000;
    }

    public int off(int tube) {
        existsTube(tube);
        Tube t = world.tubes.get(tube);
        return t.state == 0 ? world.told(t) - world.pressures[t.point] : -1000000000;
    }

    public int difference(int first, int second) {
        existsTube(first);
        existsTube(second);
        Tube a = world.tubes.get(first);
        Tube b = world.tubes.get(second);
        return a.state == 0 && b.state == 0 ? world.difference(a, b) : -1000000000;
    }

    List<Tube> whole() {
        List<Tube> found = new ArrayList<>();
        for (Tube t : world.tubes) {
            if (t.state == 0) {
                found.add(t);
            }
        }
        return found;
    }

    public int ring() {
        List<Tube> all = whole();
        int sum = 0;
        if (all.size() >= 2) {
            for (int k = 0; k < all.size(); k++) {
                sum += world.difference(all.get(k), all.get((k + 1) % all.size()));
            }
        }
        return sum;
    }

    public int room(int tube) {
        existsTube(tube);
        Tube t = world.tubes.get(tube);
        return t.state == 0 ? 100 * t.length - world.column(t) : -1;
    }

    public int longest() {
        int best = -1;
        for (int k = 0; k < world.tubes.size(); k++) {
            Tube t = world.tubes.get(k);
            if (t.state == 0 && (best < 0 || world.column(t) > world.column(world.tubes.get(best)))) {
                best = k;
            }
        }
        return best;
    }

    public int worst() {
        int best = -1;
        for (int k = 0; k < world.tubes.size(); k++) {
            if (world.tubes.get(k).state == 0 && (best < 0 || Math.abs(off(k)) > Math.abs(off(best)))) {
                best = k;
            }
        }
        return best;
    }

    public boolean agree(int point, int units) {
        existsPoint(point);
        need(units >= 0 && units <= 99999);
        for (Tube a : whole()) {
            for (Tube b : whole()) {
                if (a.point == point && b.point == point && Math.abs(world.told(a) - world.told(b)) > units) {
                    return false;
                }
            }
        }
        return true;
    }

    public int wouldBreak(int point, int pressure) {
        existsPoint(point);
        needPressure(pressure);
        World w = world.copy();
        w.pressures[point] = pressure;
        w.settle();
        int bits = 0;
        for (int k = 0; k < w.tubes.size(); k++) {
            if (w.tubes.get(k).state != world.tubes.get(k).state) {
                bits += 1 << k;
            }
        }
        return bits;
    }

    public int readingWith(int tube, int point, int pressure) {
        existsTube(tube);
        existsPoint(point);
        needPressure(pressure);
        World w = world.copy();
        w.pressures[point] = pressure;
        w.settle();
        return w.reading(w.tubes.get(tube));
    }

    public int breaksIn(int point, int step) {
        existsPoint(point);
        need(step >= -9999 && step <= 9999);
        World w = world.copy();
        for (int k = 1; k <= 60; k++) {
            int p = w.pressures[point] + step;
            w.pressures[point] = p < 0 ? 0 : p > 99999 ? 99999 : p;
            if (w.settle() != 0) {
                return k;
            }
        }
        return -1;
    }

    public int bestSlant(int tube) {
        existsTube(tube);
        if (world.tubes.get(tube).state != 0) {
            return -1;
        }
        int best = -1;
        int column = -1;
        for (int slant = 1000; slant >= 50; slant -= 50) {
            World w = world.copy();
            w.tubes.get(tube).slant = slant;
            if (w.settle() == 0 && w.column(w.tubes.get(tube)) > column) {
                best = slant;
                column = w.column(w.tubes.get(tube));
            }
        }
        return best;
    }

    public int lostWith(int reference) {
        needPressure(reference);
        World w = world.copy();
        w.reference = reference;
        return w.settle();
    }

    public double meanReading() {
        List<Tube> all = whole();
        int sum = 0;
        for (Tube t : all) {
            sum += world.reading(t);
        }
        return all.isEmpty() ? 0 : (double) sum / all.size();
    }

    public float wholeShare() {
        return world.tubes.isEmpty() ? 0 : (float) whole().size() / (float) world.tubes.size();
    }

    void keep() {
        undos.addLast(world.copy());
        if (undos.size() > 10) {
            undos.removeFirst();
        }
    }

    public int setPressure(int point, int pressure) {
        existsPoint(point);
        needPressure(pressure);
        keep();
        world.pressures[point] = pressure;
        return world.settle();
    }

    public int setReference(int reference) {
        needPressure(reference);
        keep();
        world.reference = reference;
        return world.settle();
    }

    public int sweep(int point, int pressure, int steps) {
        existsPoint(point);
        needPressure(pressure);
        need(steps >= 1 && steps <= 50);
        keep();
        int first = world.pressures[point];
        int sum = 0;
        for (int k = 1; k <= steps; k++) {
            world.pressures[point] = first + (pressure - first) * k / steps;
            sum += world.settle();
        }
        return sum;
    }

    public int setSlant(int tube, int slant) {
        existsTube(tube);
        need(slant >= 50 && slant <= 1000);
        keep();
        world.tubes.get(tube).slant = slant;
        return world.settle();
    }

    public int setMark(int tube) {
        existsTube(tube);
        Tube t = world.tubes.get(tube);
        if (t.state != 0) {
            return -1000000000;
        }
        int mark = -(world.column(t) / 10);
        if (mark < -9999 || mark > 9999) {
            return -1000000001;
        }
        keep();
        t.mark = mark;
        return mark;
    }

    public int setCurve(int leg, int curve) {
        existsLeg(leg);
        need(curve >= -9999 && curve <= 9999);
        keep();
        world.curve[leg] = curve;
        return world.settle();
    }

    public int mend(int tube) {
        existsTube(tube);
        Tube t = world.tubes.get(tube);
        if (t.state == 0) {
            return -2;
        }
        keep();
        t.state = 0;
        world.settle();
        return t.state;
    }

    public int refill(int leg, int volume) {
        existsLeg(leg);
        need(volume >= 1 && volume <= 99999999);
        if (world.filled[leg] + volume > 2000000000) {
            return -2;
        }
        keep();
        world.filled[leg] += volume;
        world.stock[leg] += volume;
        return world.settle();
    }

    public int addTube(int leg, int point, int bore, int slant, int length) {
        existsLeg(leg);
        existsPoint(point);
        need(bore >= 1 && bore <= 20 && slant >= 50 && slant <= 1000 && length >= 10 && length <= 2000);
        if (world.tubes.size() == 12) {
            return -2;
        }
        keep();
        Tube t = new Tube();
        t.leg = leg;
        t.point = point;
        t.bore = bore;
        t.slant = slant;
        t.length = length;
        world.tubes.add(t);
        world.settle();
        return world.tubes.size() - 1;
    }

    public int dropTube(int tube) {
        existsTube(tube);
        keep();
        world.tubes.remove(tube);
        world.settle();
        return world.tubes.size();
    }

    public int format(int tube) {
        existsTube(tube);
        Tube t = world.tubes.get(tube);
        String shown = t.state == 0 ? Integer.toString(world.reading(t)) : t.state == 1 ? "sucked" : "blown";
        text = t.leg + "/" + t.point + " " + t.slant + " " + shown;
        return text.length();
    }

    public int formattedByte(int index) {
        return index < 0 || index >= text.length() ? -1 : text.charAt(index);
    }

    public int undoCount() {
        return undos.size();
    }

    public int undo() {
        if (undos.isEmpty()) {
            return -1;
        }
        world = undos.removeLast();
        return undos.size();
    }

    public void saveSnapshot() {
        saved = world.copy();
    }

    public boolean restoreSnapshot() {
        if (saved == null) {
            return false;
        }
        world = saved.copy();
        undos.clear();
        return true;
    }

    // ---- queries: a tree of tests, asked for each tube ----

    interface Test {
        boolean holds(int tube);
    }

    interface Value {
        int of(int tube);
    }

    public int query(int length) {
        need(length >= 0 && length <= 200 && length <= buffer.length());
        tokenize(length);
        buffer.setLength(0);
        boolean many;
        Test test;
        try {
            many = peek().equals("many");
            if (!many && !peek().equals("first")) {
                throw new Wrong(1, at());
            }
            next++;
            test = or(0);
            if (!peek().equals("")) {
                throw new Wrong(1, at());
            }
        } catch (Wrong e) {
            errorAt = e.at;
            return -1000000000 - e.code;
        }
        errorAt = -1;
        int count = 0;
        for (int k = 0; k < world.tubes.size(); k++) {
            if (test.holds(k)) {
                if (!many) {
                    return k;
                }
                count++;
            }
        }
        return many ? count : -1;
    }

    Test or(int open) throws Wrong {
        Test left = and(open);
        while (has("or")) {
            Test one = left;
            Test other = and(open);
            left = k -> one.holds(k) || other.holds(k);
        }
        return left;
    }

    Test and(int open) throws Wrong {
        Test left = factor(open);
        while (has("and")) {
            Test one = left;
            Test other = factor(open);
            left = k -> one.holds(k) && other.holds(k);
        }
        return left;
    }

    Test factor(int open) throws Wrong {
        if (peek().equals("not") || peek().equals("(")) {
            if (open == 6) {
                throw new Wrong(3, at());
            }
        }
        if (has("not")) {
            Test inner = factor(open + 1);
            return k -> !inner.holds(k);
        }
        if (has("(")) {
            Test inner = or(open + 1);
            take(")");
            return inner;
        }
        Value left = value();
        String sign = peek();
        if (!sign.equals("<") && !sign.equals("=") && !sign.equals(">")) {
            throw new Wrong(1, at());
        }
        next++;
        Value right = value();
        return k -> {
            int order = Integer.compare(left.of(k), right.of(k));
            return sign.equals("<") ? order < 0 : sign.equals("=") ? order == 0 : order > 0;
        };
    }

    Value value() throws Wrong {
        String name = peek();
        if (name.matches("[0-9]+")) {
            int n = number(0, 999999);
            return k -> n;
        }
        List<String> names = List.of("leg", "point", "bore", "slant", "length", "mark", "state", "column");
        if (name.equals("tube")) {
            next++;
            return k -> k;
        }
        if (name.equals("pressure")) {
            next++;
            return k -> world.pressures[world.tubes.get(k).point];
        }
        int what = names.indexOf(name);
        if (what < 0 || name.equals("mark")) {
            throw new Wrong(1, at());
        }
        next++;
        return k -> tube(k, what);
    }
}

import java.util.NoSuchElementException;

/** A row of slanted gauges that stand in two common legs; README.md says how to use it. */
public final class SlantGauges {
    public static final int NONE = -1;
    public static final int HIDDEN = -1000000000;

    private static final int MOST_BYTES = 600;
    private static final int MOST_QUERY_BYTES = 200;
    private static final int MOST_POINTS = 8;
    private static final int MOST_TUBES = 12;
    private static final int MOST_UNDOS = 10;
    private static final int MOST_OPEN = 6;
    private static final int MOST_FORECAST_STEPS = 60;
    private static final int MOST_COMPARED = 999999;

    private static final int HIGHEST_PRESSURE = 99999;
    private static final int FIRST_PRESSURE = 50000;
    private static final int WIDEST_BORE = 20;
    private static final int LEAST_SLANT = 50;
    private static final int GREATEST_SLANT = 1000;
    private static final int SHORTEST = 10;
    private static final int LONGEST = 2000;
    private static final int WIDEST_SIGNED = 9999;
    private static final int GREATEST_REFILL = 99999999;
    private static final long MOST_FILLED = 2000000000L;

    private static final int WHOLE = 0;
    private static final int SUCKED = 1;
    private static final int BLOWN = 2;

    private static final int BAD_TOKEN = 1;
    private static final int BAD_NUMBER = 2;
    private static final int TOO_MANY = 3;

    private final Row current = new Row();
    private final Row trial = new Row();
    private final Row snapshot = new Row();
    private final History history = new History();
    private final Tokens tokens = new Tokens();
    private final StringBuilder formatted = new StringBuilder();
    private boolean snapshotTaken;

    public SlantGauges() {
        current.clear(2, FIRST_PRESSURE);
    }

    // ---- text and size ----

    public int feed(int a, int b, int c, int d, int e) {
        if (!tokens.hasRoomFor(20)) {
            return NONE;
        }
        tokens.append(a);
        tokens.append(b);
        tokens.append(c);
        tokens.append(d);
        tokens.append(e);
        return tokens.filled;
    }

    public int load(int length) throws IllegalArgumentException {
        requireWithin(length, 0, tokens.filled);
        tokens.begin(length);
        TextGrammar grammar = new TextGrammar(tokens, trial);
        grammar.read();
        tokens.empty();
        if (tokens.errorCode != 0) {
            return -10 - tokens.errorCode;
        }
        current.copyFrom(trial);
        current.settle();
        history.clear();
        snapshotTaken = false;
        return current.countInState(WHOLE);
    }

    public int errorPosition() {
        return tokens.errorAt;
    }

    public int size(int what) throws NoSuchElementException {
        switch (what) {
            case 0: return current.points;
            case 1: return current.reference;
            case 2: return current.tubeCount;
            case 3: return current.countInState(WHOLE);
            case 4: return current.countInState(SUCKED);
            case 5: return current.countInState(BLOWN);
            case 6: return current.countInLeg(0);
            case 7: return current.countInLeg(1);
            default: throw new NoSuchElementException("no such size");
        }
    }

    // ---- what is seen ----

    public int pressure(int point) throws NoSuchElementException {
        requirePoint(point);
        return current.pressureAt(point);
    }

    public int leg(int leg, int what) throws NoSuchElementException {
        requireLeg(leg);
        Leg asked = current.legAt(leg);
        switch (what) {
            case 0: return asked.density;
            case 1: return asked.area;
            case 2: return asked.curve;
            case 3: return (int) asked.level;
            default: throw new NoSuchElementException("no such number of a leg");
        }
    }

    public long account(int leg, int what) throws NoSuchElementException {
        requireLeg(leg);
        Leg asked = current.legAt(leg);
        long inColumns = current.volumesAt(leg, asked.level);
        switch (what) {
            case 0: return asked.stock;
            case 1: return inColumns;
            case 2: return asked.lost;
            case 3: return asked.refilled;
            case 4: return asked.stock - asked.area * asked.level - inColumns;
            default: throw new NoSuchElementException("no such account");
        }
    }

    public int tube(int tube, int what) throws NoSuchElementException {
        requireTube(tube);
        if (what < Row.OF_LEG || what > Row.OF_MENISCUS) {
            throw new NoSuchElementException("no such number of a tube");
        }
        return current.numberOf(tube, what);
    }

    public int told(int tube) throws NoSuchElementException {
        requireTube(tube);
        Tube asked = current.tubeAt(tube);
        return asked.state == WHOLE ? current.toldBy(asked) : HIDDEN;
    }

    public int off(int tube) throws NoSuchElementException {
        requireTube(tube);
        Tube asked = current.tubeAt(tube);
        return asked.state == WHOLE ? current.wrongBy(asked) : HIDDEN;
    }

    public int difference(int first, int second) throws NoSuchElementException {
        requireTube(first);
        requireTube(second);
        Tube one = current.tubeAt(first);
        Tube other = current.tubeAt(second);
        return one.state == WHOLE && other.state == WHOLE ? current.differenceOf(one, other) : HIDDEN;
    }

    public int ring() {
        int first = NONE;
        int last = NONE;
        int sum = 0;
        for (int k = 0; k < current.tubeCount; k++) {
            if (current.tubeAt(k).state == WHOLE) {
                if (last == NONE) {
                    first = k;
                } else {
                    sum += current.differenceOf(current.tubeAt(last), current.tubeAt(k));
                }
                last = k;
            }
        }
        if (first == last) {
            return 0;
        }
        return sum + current.differenceOf(current.tubeAt(last), current.tubeAt(first));
    }

    public int room(int tube) throws NoSuchElementException {
        requireTube(tube);
        Tube asked = current.tubeAt(tube);
        return asked.state == WHOLE ? asked.fullColumn() - asked.column : NONE;
    }

    public int longest() {
        int found = NONE;
        int greatest = -1;
        for (int k = 0; k < current.tubeCount; k++) {
            Tube tube = current.tubeAt(k);
            if (tube.state == WHOLE && tube.column > greatest) {
                found = k;
                greatest = tube.column;
            }
        }
        return found;
    }

    public int worst() {
        int found = NONE;
        int greatest = -1;
        for (int k = 0; k < current.tubeCount; k++) {
            Tube tube = current.tubeAt(k);
            if (tube.state == WHOLE && Math.abs(current.wrongBy(tube)) > greatest) {
                found = k;
                greatest = Math.abs(current.wrongBy(tube));
            }
        }
        return found;
    }

    public boolean agree(int point, int units) throws NoSuchElementException, IllegalArgumentException {
        requirePoint(point);
        requireWithin(units, 0, 99999);
        boolean any = false;
        int least = 0;
        int most = 0;
        for (int k = 0; k < current.tubeCount; k++) {
            Tube tube = current.tubeAt(k);
            if (tube.state == WHOLE && tube.point == point) {
                int told = current.toldBy(tube);
                least = any ? Math.min(least, told) : told;
                most = any ? Math.max(most, told) : told;
                any = true;
            }
        }
        return most - least <= units;
    }

    // ---- forecasts ----

    public int wouldBreak(int point, int pressure) throws NoSuchElementException, IllegalArgumentException {
        requirePoint(point);
        requireWithin(pressure, 0, HIGHEST_PRESSURE);
        tryPressure(point, pressure);
        int broken = 0;
        for (int k = 0; k < current.tubeCount; k++) {
            if (current.tubeAt(k).state == WHOLE && trial.tubeAt(k).state != WHOLE) {
                broken |= 1 << k;
            }
        }
        return broken;
    }

    public int readingWith(int tube, int point, int pressure)
            throws NoSuchElementException, IllegalArgumentException {
        requireTube(tube);
        requirePoint(point);
        requireWithin(pressure, 0, HIGHEST_PRESSURE);
        tryPressure(point, pressure);
        return trial.tubeAt(tube).shownReading();
    }

    public int breaksIn(int point, int step) throws NoSuchElementException, IllegalArgumentException {
        requirePoint(point);
        requireWithin(step, -9999, 9999);
        trial.copyFrom(current);
        for (int steps = 1; steps <= MOST_FORECAST_STEPS; steps++) {
            int next = trial.pressureAt(point) + step;
            trial.press(point, Math.max(0, Math.min(HIGHEST_PRESSURE, next)));
            if (trial.settle() > 0) {
                return steps;
            }
        }
        return NONE;
    }

    public int bestSlant(int tube) throws NoSuchElementException {
        requireTube(tube);
        if (current.tubeAt(tube).state != WHOLE) {
            return NONE;
        }
        int best = NONE;
        int longestColumn = -1;
        for (int slant = LEAST_SLANT; slant <= GREATEST_SLANT; slant += 50) {
            trial.copyFrom(current);
            trial.tubeAt(tube).slant = slant;
            if (trial.settle() == 0 && trial.tubeAt(tube).column >= longestColumn) {
                best = slant;
                longestColumn = trial.tubeAt(tube).column;
            }
        }
        return best;
    }

    public int lostWith(int reference) throws IllegalArgumentException {
        requireWithin(reference, 0, HIGHEST_PRESSURE);
        trial.copyFrom(current);
        trial.reference = reference;
        return trial.settle();
    }

    public double meanReading() {
        int sum = 0;
        int whole = 0;
        for (int k = 0; k < current.tubeCount; k++) {
            Tube tube = current.tubeAt(k);
            if (tube.state == WHOLE) {
                sum += tube.shownReading();
                whole++;
            }
        }
        return whole == 0 ? 0.0 : (double) sum / (double) whole;
    }

    public float wholeShare() {
        int all = current.tubeCount;
        return all == 0 ? 0.0f : (float) current.countInState(WHOLE) / (float) all;
    }

    // ---- operations ----

    public int setPressure(int point, int pressure) throws NoSuchElementException, IllegalArgumentException {
        requirePoint(point);
        requireWithin(pressure, 0, HIGHEST_PRESSURE);
        history.keep(current);
        current.press(point, pressure);
        return current.settle();
    }

    public int setReference(int reference) throws IllegalArgumentException {
        requireWithin(reference, 0, HIGHEST_PRESSURE);
        history.keep(current);
        current.reference = reference;
        return current.settle();
    }

    public int sweep(int point, int pressure, int steps) throws NoSuchElementException, IllegalArgumentException {
        requirePoint(point);
        requireWithin(pressure, 0, HIGHEST_PRESSURE);
        requireWithin(steps, 1, 50);
        history.keep(current);
        int first = current.pressureAt(point);
        int broken = 0;
        for (int k = 1; k <= steps; k++) {
            current.press(point, first + (pressure - first) * k / steps);
            broken += current.settle();
        }
        return broken;
    }

    public int setSlant(int tube, int slant) throws NoSuchElementException, IllegalArgumentException {
        requireTube(tube);
        requireWithin(slant, LEAST_SLANT, GREATEST_SLANT);
        history.keep(current);
        current.tubeAt(tube).slant = slant;
        return current.settle();
    }

    public int setMark(int tube) throws NoSuchElementException {
        requireTube(tube);
        Tube marked = current.tubeAt(tube);
        if (marked.state != WHOLE) {
            return HIDDEN;
        }
        int mark = -(marked.column / 10);
        if (mark < -WIDEST_SIGNED) {
            return HIDDEN - 1;
        }
        history.keep(current);
        marked.mark = mark;
        return mark;
    }

    public int setCurve(int leg, int curve) throws NoSuchElementException, IllegalArgumentException {
        requireLeg(leg);
        requireWithin(curve, -WIDEST_SIGNED, WIDEST_SIGNED);
        history.keep(current);
        current.legAt(leg).curve = curve;
        return current.settle();
    }

    public int mend(int tube) throws NoSuchElementException {
        requireTube(tube);
        Tube mended = current.tubeAt(tube);
        if (mended.state == WHOLE) {
            return -2;
        }
        history.keep(current);
        mended.state = WHOLE;
        current.settle();
        return mended.state;
    }

    public int refill(int leg, int volume) throws NoSuchElementException, IllegalArgumentException {
        requireLeg(leg);
        requireWithin(volume, 1, GREATEST_REFILL);
        Leg filled = current.legAt(leg);
        if (filled.refilled + volume > MOST_FILLED) {
            return -2;
        }
        history.keep(current);
        filled.stock += volume;
        filled.refilled += volume;
        return current.settle();
    }

    public int addTube(int leg, int point, int bore, int slant, int length)
            throws NoSuchElementException, IllegalArgumentException {
        requireLeg(leg);
        requirePoint(point);
        requireWithin(bore, 1, WIDEST_BORE);
        requireWithin(slant, LEAST_SLANT, GREATEST_SLANT);
        requireWithin(length, SHORTEST, LONGEST);
        if (current.tubeCount >= MOST_TUBES) {
            return -2;
        }
        history.keep(current);
        Tube added = current.append();
        added.stand(leg, point);
        added.shape(bore, slant, length);
        current.settle();
        return current.tubeCount - 1;
    }

    public int dropTube(int tube) throws NoSuchElementException {
        requireTube(tube);
        history.keep(current);
        current.remove(tube);
        current.settle();
        return current.tubeCount;
    }

    // ---- text of a tube, undo, snapshot, query ----

    public int format(int tube) throws NoSuchElementException {
        requireTube(tube);
        Tube asked = current.tubeAt(tube);
        formatted.setLength(0);
        formatted.append(asked.leg);
        formatted.append('/');
        formatted.append(asked.point);
        formatted.append(' ');
        formatted.append(asked.slant);
        formatted.append(' ');
        if (asked.state == WHOLE) {
            formatted.append(asked.shownReading());
        } else {
            formatted.append(asked.state == SUCKED ? "sucked" : "blown");
        }
        return formatted.length();
    }

    public int formattedByte(int index) {
        return index >= 0 && index < formatted.length() ? formatted.charAt(index) : NONE;
    }

    public int undoCount() {
        return history.count;
    }

    public int undo() {
        if (history.count == 0) {
            return NONE;
        }
        history.takeBack(current);
        return history.count;
    }

    public void saveSnapshot() {
        snapshot.copyFrom(current);
        snapshotTaken = true;
    }

    public boolean restoreSnapshot() {
        if (!snapshotTaken) {
            return false;
        }
        current.copyFrom(snapshot);
        history.clear();
        return true;
    }

    public int query(int length) throws IllegalArgumentException {
        requireWithin(length, 0, Math.min(MOST_QUERY_BYTES, tokens.filled));
        tokens.begin(length);
        QueryGrammar grammar = new QueryGrammar(tokens, current);
        boolean many = grammar.wantsMany();
        int held = grammar.test(0);
        tokens.takeEnd();
        tokens.empty();
        if (tokens.errorCode != 0) {
            return HIDDEN - tokens.errorCode;
        }
        return many ? Integer.bitCount(held) : lowestBit(held);
    }

    // ---- what the calls share ----

    private void requirePoint(int point) {
        if (point < 0 || point >= current.points) {
            throw new NoSuchElementException("no such point");
        }
    }

    private void requireTube(int tube) {
        if (tube < 0 || tube >= current.tubeCount) {
            throw new NoSuchElementException("no such tube");
        }
    }

    private static void requireLeg(int leg) {
        if (leg != 0 && leg != 1) {
            throw new NoSuchElementException("no such leg");
        }
    }

    private static void requireWithin(int value, int least, int most) {
        if (value < least || value > most) {
            throw new IllegalArgumentException("out of range");
        }
    }

    private void tryPressure(int point, int pressure) {
        trial.copyFrom(current);
        trial.press(point, pressure);
        trial.settle();
    }

    private static int lowestBit(int bits) {
        for (int k = 0; k < MOST_TUBES; k++) {
            if ((bits >> k & 1) == 1) {
                return k;
            }
        }
        return NONE;
    }

    /** One of the two legs. */
    private static final class Leg {
        int density;
        int area;
        int curve;
        long stock;
        long lost;
        long refilled;
        // Found by the settling; every change settles, so it is never behind the rest.
        long level;

        void clear() {
            liquid(1000, 10000, 0);
            stock = 0;
            lost = 0;
            refilled = 0;
            level = 0;
        }

        void liquid(int newDensity, int newArea, int newCurve) {
            density = newDensity;
            area = newArea;
            curve = newCurve;
        }

        void copyFrom(Leg other) {
            liquid(other.density, other.area, other.curve);
            stock = other.stock;
            lost = other.lost;
            refilled = other.refilled;
            level = other.level;
        }
    }

    /** A tube; its pull, meniscus and column are those that the last settling found. */
    private static final class Tube {
        int leg;
        int point;
        int bore;
        int slant;
        int length;
        int mark;
        int state;
        int pull;
        int meniscus;
        int column;

        void stand(int newLeg, int newPoint) {
            leg = newLeg;
            point = newPoint;
            mark = 0;
            state = WHOLE;
        }

        void shape(int newBore, int newSlant, int newLength) {
            bore = newBore;
            slant = newSlant;
            length = newLength;
        }

        void copyFrom(Tube other) {
            stand(other.leg, other.point);
            shape(other.bore, other.slant, other.length);
            mark = other.mark;
            state = other.state;
            pull = other.pull;
            meniscus = other.meniscus;
            column = other.column;
        }

        int fullColumn() {
            return 100 * length;
        }

        long fullVolume() {
            return (long) fullColumn() * bore * bore;
        }

        long runAt(long level) {
            return slant == 0 ? 0 : (level + pull + meniscus) * 1000 / slant;
        }

        long columnAt(long level) {
            return state == WHOLE ? Math.max(0L, Math.min(fullColumn(), runAt(level))) : 0;
        }

        int shownReading() {
            return column / 10 + mark;
        }

        int columnHeight() {
            return column * slant / 1000;
        }
    }

    /** Everything that undoing restores. */
    private static final class Row {
        static final int OF_LEG = 0;
        static final int OF_POINT = 1;
        static final int OF_BORE = 2;
        static final int OF_SLANT = 3;
        static final int OF_LENGTH = 4;
        static final int OF_MARK = 5;
        static final int OF_STATE = 6;
        static final int OF_COLUMN = 7;
        static final int OF_READING = 8;
        static final int OF_PULL = 9;
        static final int OF_MENISCUS = 10;
        // The queries know these two besides.
        static final int OF_ITSELF = 11;
        static final int OF_PRESSURE = 12;

        int points;
        int reference;
        int tubeCount;
        final int[] pressures = new int[MOST_POINTS];
        final Leg left = new Leg();
        final Leg right = new Leg();
        final Tube[] tubes = new Tube[MOST_TUBES];
        // Stands for a tube that there is not, so that no index leads to nothing.
        final Tube spare = new Tube();

        Row() {
            for (int k = 0; k < tubes.length; k++) {
                tubes[k] = new Tube();
            }
        }

        void clear(int newPoints, int newReference) {
            points = newPoints;
            reference = newReference;
            tubeCount = 0;
            for (int k = 0; k < pressures.length; k++) {
                pressures[k] = FIRST_PRESSURE;
            }
            left.clear();
            right.clear();
        }

        void copyFrom(Row other) {
            points = other.points;
            reference = other.reference;
            tubeCount = other.tubeCount;
            for (int k = 0; k < pressures.length; k++) {
                pressures[k] = other.pressureAt(k);
            }
            left.copyFrom(other.left);
            right.copyFrom(other.right);
            for (int k = 0; k < tubeCount; k++) {
                tubeAt(k).copyFrom(other.tubeAt(k));
            }
        }

        Leg legAt(int leg) {
            return leg == 0 ? left : right;
        }

        Tube tubeAt(int k) {
            return k >= 0 && k < tubes.length ? tubes[k] : spare;
        }

        int pressureAt(int point) {
            return point >= 0 && point < pressures.length ? pressures[point] : 0;
        }

        void press(int point, int pressure) {
            if (point >= 0 && point < pressures.length) {
                pressures[point] = pressure;
            }
        }

        Tube append() {
            if (tubeCount >= MOST_TUBES) {
                return spare;
            }
            tubeCount++;
            return tubeAt(tubeCount - 1);
        }

        void remove(int tube) {
            for (int k = tube; k < tubeCount - 1; k++) {
                tubeAt(k).copyFrom(tubeAt(k + 1));
            }
            tubeCount--;
        }

        int countInState(int state) {
            int count = 0;
            for (int k = 0; k < tubeCount; k++) {
                count += tubeAt(k).state == state ? 1 : 0;
            }
            return count;
        }

        int countInLeg(int leg) {
            int count = 0;
            for (int k = 0; k < tubeCount; k++) {
                count += tubeAt(k).leg == leg ? 1 : 0;
            }
            return count;
        }

        int numberOf(int k, int what) {
            Tube tube = tubeAt(k);
            switch (what) {
                case OF_LEG: return tube.leg;
                case OF_POINT: return tube.point;
                case OF_BORE: return tube.bore;
                case OF_SLANT: return tube.slant;
                case OF_LENGTH: return tube.length;
                case OF_MARK: return tube.mark;
                case OF_STATE: return tube.state;
                case OF_COLUMN: return tube.column;
                case OF_READING: return tube.shownReading();
                case OF_PULL: return tube.pull;
                case OF_MENISCUS: return tube.meniscus;
                case OF_PRESSURE: return pressureAt(tube.point);
                default: return k;
            }
        }

        int toldBy(Tube tube) {
            Leg leg = legAt(tube.leg);
            long rise = tube.columnHeight() - leg.level - tube.meniscus;
            return (int) (reference - rise * leg.density / 1000);
        }

        int wrongBy(Tube tube) {
            return toldBy(tube) - pressureAt(tube.point);
        }

        int differenceOf(Tube first, Tube second) {
            if (first.leg != second.leg) {
                return toldBy(first) - toldBy(second);
            }
            long higher = second.columnHeight() - first.columnHeight() - second.meniscus + first.meniscus;
            return (int) (higher * legAt(first.leg).density / 1000);
        }

        /** Both legs settle; the answer is how many tubes became sucked or blown. */
        int settle() {
            for (int k = 0; k < tubeCount; k++) {
                Tube tube = tubeAt(k);
                Leg leg = legAt(tube.leg);
                tube.pull = leg.density == 0 ? 0 : (reference - pressureAt(tube.point)) * 1000 / leg.density;
                tube.meniscus = tube.bore == 0 ? 0 : leg.curve / tube.bore;
            }
            int broken = settleLeg(0) + settleLeg(1);
            for (int k = 0; k < tubeCount; k++) {
                Tube tube = tubeAt(k);
                tube.column = (int) tube.columnAt(legAt(tube.leg).level);
            }
            return broken;
        }

        private int settleLeg(int side) {
            Leg leg = legAt(side);
            int broken = 0;
            int now = 1;
            // Each round but the last breaks a tube, so there are no more of them than tubes and one.
            for (int round = 0; round <= MOST_TUBES && now > 0; round++) {
                leg.level = greatestLevel(side);
                now = breakTubes(side);
                broken += now;
            }
            return broken;
        }

        private long greatestLevel(int side) {
            Leg leg = legAt(side);
            if (leg.area == 0) {
                return 0;
            }
            // With all columns full the level is still not too high, with all empty no higher one is right.
            long low = Math.floorDiv(leg.stock - fullVolumes(side), (long) leg.area);
            long high = Math.floorDiv(leg.stock, (long) leg.area);
            for (int step = 0; step < 64 && low < high; step++) {
                long middle = low + (high - low + 1) / 2;
                if (leg.area * middle + volumesAt(side, middle) <= leg.stock) {
                    low = middle;
                } else {
                    high = middle - 1;
                }
            }
            return low;
        }

        private long fullVolumes(int side) {
            long sum = 0;
            for (int k = 0; k < tubeCount; k++) {
                Tube tube = tubeAt(k);
                if (tube.leg == side && tube.state == WHOLE) {
                    sum += tube.fullVolume();
                }
            }
            return sum;
        }

        long volumesAt(int side, long level) {
            long sum = 0;
            for (int k = 0; k < tubeCount; k++) {
                Tube tube = tubeAt(k);
                if (tube.leg == side) {
                    sum += tube.columnAt(level) * tube.bore * tube.bore;
                }
            }
            return sum;
        }

        private int breakTubes(int side) {
            Leg leg = legAt(side);
            int broken = 0;
            for (int k = 0; k < tubeCount; k++) {
                Tube tube = tubeAt(k);
                if (tube.leg == side && tube.state == WHOLE) {
                    long run = tube.runAt(leg.level);
                    if (run < 0) {
                        tube.state = SUCKED;
                        broken++;
                    } else if (run > tube.fullColumn()) {
                        tube.state = BLOWN;
                        broken++;
                        leg.stock -= tube.fullVolume();
                        leg.lost += tube.fullVolume();
                    }
                }
            }
            return broken;
        }
    }

    /** The rows as they were ahead of the most recent operations. */
    private static final class History {
        final Row[] rows = new Row[MOST_UNDOS];
        int oldest;
        int count;

        History() {
            for (int k = 0; k < rows.length; k++) {
                rows[k] = new Row();
            }
        }

        void clear() {
            oldest = 0;
            count = 0;
        }

        void keep(Row row) {
            int at = Math.floorMod(oldest + count, MOST_UNDOS);
            if (at >= 0 && at < rows.length) {
                rows[at].copyFrom(row);
            }
            if (count < MOST_UNDOS) {
                count++;
            } else {
                oldest = Math.floorMod(oldest + 1, MOST_UNDOS);
            }
        }

        void takeBack(Row into) {
            int at = Math.floorMod(oldest + count - 1, MOST_UNDOS);
            if (count > 0 && at >= 0 && at < rows.length) {
                count--;
                into.copyFrom(rows[at]);
            }
        }
    }

    /** The byte buffer and the tokens of a text at its beginning; the first error stays. */
    private static final class Tokens {
        static final int END = 0;
        static final int WORD = 1;
        static final int NUMBER = 2;
        // Any other byte: one that is no token of the text is allowed nowhere, which is the same error.
        static final int SIGN = 3;

        final byte[] bytes = new byte[MOST_BYTES];
        int filled;
        int end;
        int next;
        int start;
        int kind;
        int number;
        int errorCode;
        int errorAt = NONE;

        boolean hasRoomFor(int count) {
            return filled + count <= bytes.length;
        }

        void append(int fourBytes) {
            for (int shift = 24; shift >= 0; shift -= 8) {
                if (filled >= 0 && filled < bytes.length) {
                    bytes[filled] = (byte) (fourBytes >> shift);
                    filled++;
                }
            }
        }

        void empty() {
            filled = 0;
        }

        void begin(int length) {
            end = Math.min(length, bytes.length);
            next = 0;
            errorCode = 0;
            errorAt = NONE;
            advance();
        }

        void advance() {
            while (next < end && (byteAt(next) == ' ' || byteAt(next) == 10)) {
                next++;
            }
            start = next;
            number = 0;
            if (next >= end) {
                kind = END;
            } else if (isLetter(byteAt(next))) {
                kind = WORD;
                while (next < end && isLetter(byteAt(next))) {
                    next++;
                }
            } else if (isDigit(byteAt(next))) {
                kind = NUMBER;
                while (next < end && isDigit(byteAt(next))) {
                    // Beyond all ranges it need not grow on, and so never wraps around.
                    number = number > 9999999 ? number : number * 10 + byteAt(next) - '0';
                    next++;
                }
            } else {
                kind = SIGN;
                next++;
            }
        }

        private int byteAt(int index) {
            return index >= 0 && index < bytes.length ? bytes[index] : 0;
        }

        private static boolean isLetter(int sign) {
            return sign >= 'a' && sign <= 'z';
        }

        private static boolean isDigit(int sign) {
            return sign >= '0' && sign <= '9';
        }

        void fail(int code) {
            if (errorCode == 0) {
                errorCode = code;
                errorAt = start;
            }
        }

        boolean goesOn() {
            return errorCode == 0 && kind != END;
        }

        boolean isWord(String word) {
            boolean same = kind == WORD && next - start == word.length();
            for (int k = 0; k < word.length() && same; k++) {
                int at = start + k;
                same = at >= 0 && at < bytes.length && bytes[at] == word.charAt(k);
            }
            return same;
        }

        boolean isSign(char sign) {
            return kind == SIGN && byteAt(start) == sign;
        }

        void takeWord(String word) {
            if (isWord(word)) {
                advance();
            } else {
                fail(BAD_TOKEN);
            }
        }

        void takeSign(char sign) {
            if (isSign(sign)) {
                advance();
            } else {
                fail(BAD_TOKEN);
            }
        }

        void takeEnd() {
            if (kind != END) {
                fail(BAD_TOKEN);
            }
        }

        /** Answers the least number after an error, so that what is done with it stays in range. */
        int takeNumber(int least, int most) {
            int taken = number;
            if (kind != NUMBER) {
                fail(BAD_TOKEN);
                return least;
            }
            if (taken < least || taken > most) {
                fail(BAD_NUMBER);
                return least;
            }
            advance();
            return taken;
        }

        int takeSigned() {
            boolean minus = isSign('-');
            if (minus) {
                advance();
            }
            int taken = takeNumber(0, WIDEST_SIGNED);
            return minus ? -taken : taken;
        }
    }

    /** Reads a text into a row. */
    private static final class TextGrammar {
        final Tokens tokens;
        final Row row;

        TextGrammar(Tokens tokens, Row row) {
            this.tokens = tokens;
            this.row = row;
        }

        void read() {
            tokens.takeWord("gauges");
            int points = tokens.takeNumber(2, MOST_POINTS);
            int reference = tokens.takeNumber(0, HIGHEST_PRESSURE);
            row.clear(points, reference);
            tokens.takeSign(';');
            for (int clause = 0; clause < MOST_BYTES && tokens.goesOn(); clause++) {
                readClause();
                tokens.takeSign(';');
            }
        }

        private void readClause() {
            if (tokens.isWord("leg")) {
                readLeg();
            } else if (tokens.isWord("tube")) {
                readTube();
            } else {
                tokens.takeWord("pressure");
                int point = tokens.takeNumber(0, row.points - 1);
                row.press(point, tokens.takeNumber(0, HIGHEST_PRESSURE));
            }
        }

        private void readLeg() {
            tokens.advance();
            Leg leg = row.legAt(tokens.takeNumber(0, 1));
            int density = tokens.takeNumber(100, 20000);
            int area = tokens.takeNumber(100, 99999);
            leg.liquid(density, area, tokens.takeSigned());
        }

        private void readTube() {
            if (row.tubeCount >= MOST_TUBES) {
                tokens.fail(TOO_MANY);
                return;
            }
            tokens.advance();
            Tube tube = row.append();
            int leg = tokens.takeNumber(0, 1);
            tube.stand(leg, tokens.takeNumber(0, row.points - 1));
            int bore = tokens.takeNumber(1, WIDEST_BORE);
            int slant = tokens.takeNumber(LEAST_SLANT, GREATEST_SLANT);
            tube.shape(bore, slant, tokens.takeNumber(SHORTEST, LONGEST));
            if (tokens.isWord("mark")) {
                tokens.advance();
                tube.mark = tokens.takeSigned();
            }
        }
    }

    /** Reads a query; a test is told as the set of the tubes for which it holds: bit k for the tube k. */
    private static final class QueryGrammar {
        final Tokens tokens;
        final Row row;

        QueryGrammar(Tokens tokens, Row row) {
            this.tokens = tokens;
            this.row = row;
        }

        boolean wantsMany() {
            boolean many = tokens.isWord("many");
            if (many) {
                tokens.advance();
            } else {
                tokens.takeWord("first");
            }
            return many;
        }

        private int test(int open) {
            int held = conjunction(open);
            for (int part = 0; part < MOST_QUERY_BYTES && tokens.goesOn() && tokens.isWord("or"); part++) {
                tokens.advance();
                held |= conjunction(open);
            }
            return held;
        }

        private int conjunction(int open) {
            int held = factor(open);
            for (int part = 0; part < MOST_QUERY_BYTES && tokens.goesOn() && tokens.isWord("and"); part++) {
                tokens.advance();
                held &= factor(open);
            }
            return held;
        }

        private int factor(int open) {
            boolean not = tokens.isWord("not");
            if (!not && !tokens.isSign('(')) {
                return comparison();
            }
            if (open >= MOST_OPEN) {
                tokens.fail(TOO_MANY);
                return 0;
            }
            tokens.advance();
            if (not) {
                return ~factor(open + 1) & (1 << row.tubeCount) - 1;
            }
            int held = test(open + 1);
            tokens.takeSign(')');
            return held;
        }

        private int comparison() {
            int left = operand();
            boolean less = tokens.isSign('<');
            boolean greater = tokens.isSign('>');
            if (less || greater) {
                tokens.advance();
            } else {
                tokens.takeSign('=');
            }
            int right = operand();
            int held = 0;
            for (int k = 0; k < row.tubeCount; k++) {
                int order = Integer.compare(valueFor(k, left), valueFor(k, right));
                if (less ? order < 0 : greater ? order > 0 : order == 0) {
                    held |= 1 << k;
                }
            }
            return held;
        }

        /** A number is told as itself, a property of a tube as what it is called in a row, less 100. */
        private int operand() {
            int told = tokens.number;
            if (tokens.kind != Tokens.NUMBER) {
                told = propertyNamed() - 100;
            } else if (told > MOST_COMPARED) {
                tokens.fail(BAD_NUMBER);
            }
            tokens.advance();
            return told;
        }

        private int propertyNamed() {
            if (tokens.isWord("tube")) {
                return Row.OF_ITSELF;
            }
            if (tokens.isWord("leg")) {
                return Row.OF_LEG;
            }
            if (tokens.isWord("point")) {
                return Row.OF_POINT;
            }
            if (tokens.isWord("bore")) {
                return Row.OF_BORE;
            }
            if (tokens.isWord("slant")) {
                return Row.OF_SLANT;
            }
            if (tokens.isWord("length")) {
                return Row.OF_LENGTH;
            }
            if (tokens.isWord("state")) {
                return Row.OF_STATE;
            }
            if (tokens.isWord("column")) {
                return Row.OF_COLUMN;
            }
            if (!tokens.isWord("pressure")) {
                tokens.fail(BAD_TOKEN);
            }
            return Row.OF_PRESSURE;
        }

        private int valueFor(int tube, int operand) {
            return operand >= 0 ? operand : row.numberOf(tube, operand + 100);
        }
    }
}

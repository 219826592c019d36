/**
 * Halftone screens with exact cells, in three slots.
 *
 * <p>Every row is made once, by the constructors, and used again by all calls. The rows and the
 * divisors are looked at by {@link #at}, {@link #put}, {@link #div} and {@link #mod}, so that no
 * access can fail by itself.
 */
public final class HalftoneScreens {
    public static final int NONE = -1;

    private static final int SLOTS = 3;
    private static final int SLOT_SETS = 1 << SLOTS;
    private static final int MOST_COMPONENT = 8;
    private static final int MOST_AREA = 64;
    private static final int MOST_POSITION = 10000;
    private static final int MOST_SIDE = 64;
    private static final int MOST_MIXED = 4096;
    private static final int MOST_CODES = 20;
    private static final int FULL = 100;
    private static final int MOST_RATIO = 1000;
    private static final int MOST_BOUND = 128;

    private static final int ROUND = 0;
    private static final int DIAMOND = 1;
    private static final int SQUARE = 2;
    private static final int LINE = 3;
    private static final int DOUBLE = 4;

    private static final int DIRECTIONS = 4;
    private static final int[] STEP_X = {1, 0, -1, 0};
    private static final int[] STEP_Y = {0, 1, 0, -1};

    // The vectors that span a lattice are at most 8 * sqrt(2) long, so a center lies within 8 of
    // each pixel, and the one with the least u + v within 8 * sqrt(2) < 11.5 in each coordinate.
    private static final int REACH = 12;

    // Above all values that the pixels within this reach can have.
    private static final int FAR = 1 << 30;

    // Far above what any run of Euclid's steps needs for the numbers here.
    private static final int MOST_ROUNDS = 1000;

    private final Screen[] screens = new Screen[SLOTS];
    private final Input input = new Input();
    private final Dots spread = new Dots();
    private final Lattice found = new Lattice();
    private int gain;

    public HalftoneScreens() {
        for (int slot = 0; slot < screens.length; slot++) {
            screens[slot] = new Screen();
        }
    }

    // ---- input

    public int append(int code) throws IllegalArgumentException, IllegalStateException {
        needArgument(code >= 32 && code <= 126);
        needState(input.length < MOST_CODES);
        return input.add(code);
    }

    public int clearInput() {
        int length = input.length;
        input.length = 0;
        return length;
    }

    public int firstError() {
        return input.read();
    }

    public int load(int slot) throws IndexOutOfBoundsException, IllegalStateException, IllegalArgumentException {
        Screen screen = inSlot(slot);
        needState(input.isComplete());
        int a = at(input.parts, 0);
        int b = at(input.parts, 1);
        int c = at(input.parts, 2);
        int d = at(input.parts, 3);
        needArgument(isArea(areaOf(a, b, c, d)));
        screen.become(a, b, c, d, input.spot, input.middle);
        screen.regrow();
        input.length = 0;
        return screen.area();
    }

    // ---- screens

    public int setScreen(int slot, int a, int b, int c, int d, int spot) throws IndexOutOfBoundsException, IllegalArgumentException {
        Screen screen = inSlot(slot);
        needArgument(isComponent(a) && isComponent(b) && isComponent(c) && isComponent(d));
        needArgument(spot >= ROUND && spot <= DOUBLE);
        needArgument(isArea(areaOf(a, b, c, d)));
        screen.become(a, b, c, d, spot, false);
        screen.regrow();
        return screen.area();
    }

    public int remove(int slot) throws IndexOutOfBoundsException, IllegalStateException {
        Screen screen = inSlot(slot);
        needState(screen.present);
        screen.present = false;
        return count(0);
    }

    public int setCenter(int slot, boolean middle) throws IndexOutOfBoundsException, IllegalStateException {
        Screen screen = inSlot(slot);
        needState(screen.present);
        screen.middle = middle;
        return screen.regrow();
    }

    public int turn(int slot, int how) throws IndexOutOfBoundsException, IllegalArgumentException, IllegalStateException {
        Screen screen = inSlot(slot);
        needArgument(how >= 0 && how <= 2);
        needState(screen.present);
        screen.turnVectors(how);
        return screen.regrow();
    }

    public int shorten(int slot) throws IndexOutOfBoundsException, IllegalStateException {
        Screen screen = inSlot(slot);
        needState(screen.present);
        int times = screen.shortenVectors();
        screen.regrow();
        return times;
    }

    public int setTint(int slot, int steps) throws IndexOutOfBoundsException, IllegalStateException, IllegalArgumentException {
        Screen screen = inSlotWithSteps(slot, steps);
        int previous = screen.tint;
        screen.tint = steps;
        return previous;
    }

    public int setGain(int gain) throws IllegalArgumentException {
        needArgument(gain >= 0 && gain <= FULL);
        int previous = this.gain;
        this.gain = gain;
        return previous;
    }

    public int screen(int slot, int what) throws IndexOutOfBoundsException, IllegalArgumentException, IllegalStateException {
        Screen screen = inSlot(slot);
        needArgument(what >= 0 && what <= 10);
        needState(screen.present);
        return screen.property(what);
    }

    // ---- growth

    public int place(int slot, int x, int y) throws IndexOutOfBoundsException, IllegalArgumentException, IllegalStateException {
        Screen screen = inSlot(slot);
        needArgument(isPosition(x) && isPosition(y));
        needState(screen.present);
        return screen.lattice.numberOf(x, y);
    }

    public int growth(int slot, int place, int what) throws IndexOutOfBoundsException, IllegalArgumentException, IllegalStateException {
        Screen screen = inSlot(slot);
        needArgument(what == 0 || what == 1);
        needState(screen.hasPlace(place));
        return at(what == 0 ? screen.values : screen.ranks, place);
    }

    public int placeOf(int slot, int rank) throws IndexOutOfBoundsException, IllegalStateException {
        Screen screen = inSlot(slot);
        // There are as many ranks as places, both from 0.
        needState(screen.hasPlace(rank));
        return at(screen.order, rank);
    }

    public int pixel(int x, int y) throws IllegalArgumentException {
        needArgument(isPosition(x) && isPosition(y));
        return inksOf(x, y);
    }

    public int inked(int slot, int x, int y, int width, int height) throws IndexOutOfBoundsException, IllegalArgumentException, IllegalStateException {
        Screen screen = inSlot(slot);
        needArgument(isPosition(x) && isPosition(y) && isSide(width) && isSide(height));
        needState(screen.present);
        int number = 0;
        for (int down = 0; down < height; down++) {
            for (int right = 0; right < width; right++) {
                if (screen.inks(x + right, y + down)) {
                    number++;
                }
            }
        }
        return number;
    }

    // ---- dots

    public int dots(int slot, int steps) throws IndexOutOfBoundsException, IllegalStateException, IllegalArgumentException {
        spread.examine(inSlotWithSteps(slot, steps), steps);
        return spread.number;
    }

    public int joined(int slot, int steps) throws IndexOutOfBoundsException, IllegalStateException, IllegalArgumentException {
        spread.examine(inSlotWithSteps(slot, steps), steps);
        return spread.mostJoined;
    }

    public int firstJoined(int slot, int times) throws IndexOutOfBoundsException, IllegalArgumentException, IllegalStateException {
        Screen screen = inSlot(slot);
        needArgument(times == 1 || times == 2);
        needState(screen.present);
        int area = screen.area();
        for (int steps = 1; steps < area; steps++) {
            spread.examine(screen, steps);
            if (spread.mostJoined >= times) {
                return steps;
            }
        }
        // With all places inked the whole plane is one dot, which is joined twice.
        return area;
    }

    // ---- gain

    public int strength(int slot, int steps) throws IndexOutOfBoundsException, IllegalStateException, IllegalArgumentException {
        return inSlotWithSteps(slot, steps).strengthOf(steps, gain);
    }

    public double meanStrength(int slot) throws IndexOutOfBoundsException, IllegalStateException {
        Screen screen = inSlot(slot);
        needState(screen.present);
        int area = screen.area();
        return area > 0 ? (double) screen.strengthOf(screen.tint, gain) / area : 0.0;
    }

    public int compensated(int slot, int wanted) throws IndexOutOfBoundsException, IllegalArgumentException, IllegalStateException {
        Screen screen = inSlot(slot);
        needArgument(wanted >= 0 && wanted <= FULL);
        needState(screen.present);
        int area = screen.area();
        int best = 0;
        int least = wanted * area;
        for (int steps = 1; steps <= area; steps++) {
            int off = Math.abs(screen.strengthOf(steps, gain) - wanted * area);
            if (off < least) {
                least = off;
                best = steps;
            }
        }
        return best;
    }

    // ---- several screens

    public int period(int slots, int what) throws IllegalArgumentException, IllegalStateException {
        needArgument(slots >= 1 && slots < SLOT_SETS);
        needArgument(what >= 0 && what <= 3);
        needState((slots & presentSlots()) == slots);
        findPeriod(slots);
        return found.property(what);
    }

    public int beat(int one, int other, int what) throws IndexOutOfBoundsException, IllegalArgumentException, IllegalStateException {
        Screen first = inSlot(one);
        Screen second = inSlot(other);
        needArgument(what >= 0 && what <= 3);
        needState(first.present && second.present);
        found.become(first.lattice);
        found.addAll(second.lattice);
        return found.property(what);
    }

    public int mixture(int inks) throws IllegalArgumentException, IllegalStateException {
        needArgument(inks >= 0 && inks < SLOT_SETS);
        int slots = presentSlots();
        needState(slots != 0);
        findPeriod(slots);
        needState(found.area() <= MOST_MIXED);
        int number = 0;
        for (int y = 0; y < found.h; y++) {
            for (int x = 0; x < found.w; x++) {
                if (inksOf(x, y) == inks) {
                    number++;
                }
            }
        }
        return number;
    }

    public int nearest(int p, int q, int most, int what) throws IllegalArgumentException {
        needArgument(p >= 0 && p <= MOST_RATIO && q >= 1 && q <= MOST_RATIO);
        needArgument(most >= 1 && most <= MOST_BOUND && what >= 0 && what <= 2);
        int bestX = 1;
        int bestY = 0;
        for (int x = 1; x <= MOST_COMPONENT; x++) {
            for (int y = 0; y <= MOST_COMPONENT; y++) {
                if (x * x + y * y <= most && isNearer(x, y, bestX, bestY, p, q)) {
                    bestX = x;
                    bestY = y;
                }
            }
        }
        if (what == 2) {
            return Math.abs(bestX * p - bestY * q);
        }
        return what == 0 ? bestX : bestY;
    }

    // ---- all

    public int count(int what) throws IllegalArgumentException {
        needArgument(what >= 0 && what <= 4);
        if (what == 3) {
            return gain;
        }
        if (what == 4) {
            return input.length;
        }
        int sum = 0;
        for (Screen screen : screens) {
            if (screen != null && screen.present) {
                sum += what == 0 ? 1 : what == 1 ? screen.area() : screen.tint;
            }
        }
        return sum;
    }

    public long digest() {
        long hash = 1951;
        for (int what = 0; what <= 4; what++) {
            hash = mix(hash, count(what));
        }
        for (Screen screen : screens) {
            hash = mixScreen(hash, screen);
        }
        for (int one = 0; one < SLOTS; one++) {
            for (int other = one + 1; other < SLOTS; other++) {
                hash = mixPair(hash, one, other);
            }
        }
        for (int index = 0; index < input.length; index++) {
            hash = mix(hash, at(input.codes, index));
        }
        return hash;
    }

    private static long mix(long hash, long x) {
        return 31 * hash + x;
    }

    private long mixScreen(long start, Screen screen) {
        if (screen == null || !screen.present) {
            return mix(start, 0);
        }
        long hash = mix(start, 1);
        for (int what = 0; what <= 10; what++) {
            hash = mix(hash, screen.property(what));
        }
        for (int place = 0; place < screen.area(); place++) {
            hash = mix(hash, at(screen.values, place));
            hash = mix(hash, at(screen.ranks, place));
        }
        spread.examine(screen, screen.tint);
        hash = mix(hash, spread.number);
        hash = mix(hash, spread.mostJoined);
        return mix(hash, screen.strengthOf(screen.tint, gain));
    }

    private long mixPair(long start, int one, int other) {
        int slots = 1 << one | 1 << other;
        if ((slots & presentSlots()) != slots) {
            return start;
        }
        long hash = start;
        for (int what = 0; what <= 3; what++) {
            hash = mix(hash, period(slots, what));
        }
        for (int what = 0; what <= 3; what++) {
            hash = mix(hash, beat(one, other, what));
        }
        return hash;
    }

    // ---- what the calls need

    private static void needArgument(boolean holds) {
        if (!holds) {
            throw new IllegalArgumentException("an argument is out of range");
        }
    }

    private static void needState(boolean holds) {
        if (!holds) {
            throw new IllegalStateException("the state does not allow this call");
        }
    }

    private Screen inSlot(int slot) {
        if (slot < 0 || slot >= screens.length || screens[slot] == null) {
            throw new IndexOutOfBoundsException("there is no such slot");
        }
        return screens[slot];
    }

    private Screen inSlotWithSteps(int slot, int steps) {
        Screen screen = inSlot(slot);
        needState(screen.present);
        needArgument(steps >= 0 && steps <= screen.area());
        return screen;
    }

    private static boolean isComponent(int x) {
        return x >= -MOST_COMPONENT && x <= MOST_COMPONENT;
    }

    private static boolean isArea(int x) {
        return x >= 1 && x <= MOST_AREA;
    }

    private static boolean isPosition(int x) {
        return x >= -MOST_POSITION && x <= MOST_POSITION;
    }

    private static boolean isSide(int x) {
        return x >= 1 && x <= MOST_SIDE;
    }

    private int presentSlots() {
        int slots = 0;
        for (int slot = 0; slot < screens.length; slot++) {
            if (screens[slot] != null && screens[slot].present) {
                slots |= 1 << slot;
            }
        }
        return slots;
    }

    private int inksOf(int x, int y) {
        int inks = 0;
        for (int slot = 0; slot < screens.length; slot++) {
            Screen screen = screens[slot];
            if (screen != null && screen.present && screen.inks(x, y)) {
                inks |= 1 << slot;
            }
        }
        return inks;
    }

    private void findPeriod(int slots) {
        // All pixels: what each lattice is part of.
        found.span(1, 0, 0, 1, 0);
        for (int slot = 0; slot < screens.length; slot++) {
            if ((slots >> slot & 1) == 1 && screens[slot] != null) {
                found.keepCommon(screens[slot].lattice);
            }
        }
    }

    private static boolean isNearer(int x, int y, int bestX, int bestY, int p, int q) {
        long e = Math.abs(x * p - y * q);
        long bestE = Math.abs(bestX * p - bestY * q);
        int square = x * x + y * y;
        int bestSquare = bestX * bestX + bestY * bestY;
        // The errors as fractions, each multiplied by both denominators.
        long error = e * e * bestSquare;
        long bestError = bestE * bestE * square;
        if (error != bestError) {
            return error < bestError;
        }
        if (square != bestSquare) {
            return square < bestSquare;
        }
        return x < bestX;
    }

    // ---- numbers and rows

    private static int areaOf(int a, int b, int c, int d) {
        return Math.abs(a * d - b * c);
    }

    private static int at(int[] row, int index) {
        return index >= 0 && index < row.length ? row[index] : 0;
    }

    private static void put(int[] row, int index, int x) {
        if (index >= 0 && index < row.length) {
            row[index] = x;
        }
    }

    private static int div(int x, int by) {
        return by != 0 ? x / by : 0;
    }

    private static int floorDiv(int x, int by) {
        return by != 0 ? Math.floorDiv(x, by) : 0;
    }

    private static int mod(int x, int by) {
        return by != 0 ? Math.floorMod(x, by) : 0;
    }

    private static int gcd(int x, int y) {
        int greater = Math.abs(x);
        int smaller = Math.abs(y);
        for (int round = 0; round < MOST_ROUNDS && smaller != 0; round++) {
            int rest = greater % smaller;
            greater = smaller;
            smaller = rest;
        }
        return greater;
    }

    /** A lattice, held as its one basis (w, 0) and (s, h). */
    private static final class Lattice {
        int w = 1;
        int s = 0;
        int h = 1;

        int area() {
            return w * h;
        }

        int property(int what) {
            switch (what) {
                case 0:
                    return area();
                case 1:
                    return w;
                case 2:
                    return s;
                default:
                    return h;
            }
        }

        int numberOf(int x, int y) {
            int rows = floorDiv(y, h);
            return (y - rows * h) * w + mod(x - rows * s, w);
        }

        void become(Lattice other) {
            w = other.w;
            s = other.s;
            h = other.h;
        }

        /** Becomes what (x1, y1), (x2, y2) and (flat, 0) generate; not all of it on a line. */
        void span(int x1, int y1, int x2, int y2, int flat) {
            for (int round = 0; round < MOST_ROUNDS && y2 != 0; round++) {
                int times = div(y1, y2);
                int restX = x1 - times * x2;
                int restY = y1 - times * y2;
                x1 = x2;
                y1 = y2;
                x2 = restX;
                y2 = restY;
            }
            w = gcd(flat, x2);
            h = Math.abs(y1);
            s = mod(y1 < 0 ? -x1 : x1, w);
        }

        void addAll(Lattice other) {
            span(s, h, other.s, other.h, gcd(w, other.w));
        }

        /** Keeps the points that belong to the other lattice, too. */
        void keepCommon(Lattice other) {
            int shared = gcd(w, other.w);
            int up = div(h, gcd(h, other.h)) * other.h;
            int mine = div(up, h) * s;
            int its = div(up, other.h) * other.s;
            // So many steps up until some x fits both lattices, by the remainders of w and other.w.
            int times = div(shared, gcd(shared, mine - its));
            int x = mod(times * mine, w);
            for (int round = 0; round < other.w && mod(x - times * its, other.w) != 0; round++) {
                x += w;
            }
            h = times * up;
            w = div(w, shared) * other.w;
            s = mod(x, w);
        }
    }

    /** The screen of a slot, or, while it is not present, the rows for the next one there. */
    private static final class Screen {
        final Lattice lattice = new Lattice();
        final int[] values = new int[MOST_AREA];
        final int[] otherValues = new int[MOST_AREA];
        final int[] ranks = new int[MOST_AREA];
        final int[] oldRanks = new int[MOST_AREA];
        final int[] order = new int[MOST_AREA];
        final int[] neighbors = new int[DIRECTIONS * MOST_AREA];
        boolean present;
        int a;
        int b;
        int c;
        int d;
        int spot;
        boolean middle;
        int tint;

        void become(int a, int b, int c, int d, int spot, boolean middle) {
            this.a = a;
            this.b = b;
            this.c = c;
            this.d = d;
            this.spot = spot;
            this.middle = middle;
            tint = 0;
            present = true;
        }

        int area() {
            return lattice.area();
        }

        int property(int what) {
            switch (what) {
                case 0:
                    return a;
                case 1:
                    return b;
                case 2:
                    return c;
                case 3:
                    return d;
                case 8:
                    return spot;
                case 9:
                    return middle ? 1 : 0;
                case 10:
                    return tint;
                default:
                    return lattice.property(what - 4);
            }
        }

        boolean hasPlace(int place) {
            return present && place >= 0 && place < area();
        }

        boolean inks(int x, int y) {
            return inksPlace(lattice.numberOf(x, y), tint);
        }

        boolean inksPlace(int place, int steps) {
            return at(ranks, place) < steps;
        }

        int neighbor(int place, int direction) {
            return at(neighbors, DIRECTIONS * place + direction);
        }

        void turnVectors(int how) {
            int oldA = a;
            int oldC = c;
            if (how == 0) {
                a = -b;
                b = oldA;
                c = -d;
                d = oldC;
            } else if (how == 1) {
                a = -a;
                c = -c;
            } else {
                a = b;
                b = oldA;
                c = d;
                d = oldC;
            }
        }

        int shortenVectors() {
            int times = 0;
            for (int round = 0; round < MOST_ROUNDS; round++) {
                if (c * c + d * d < a * a + b * b) {
                    exchangeVectors();
                }
                int m = nearestRatio(a * c + b * d, a * a + b * b);
                if (m == 0) {
                    return times;
                }
                c -= m * a;
                d -= m * b;
                times++;
            }
            return times;
        }

        void exchangeVectors() {
            int oldA = a;
            int oldB = b;
            a = c;
            b = d;
            c = oldA;
            d = oldB;
        }

        /** The integer nearest to x / by, halves toward 0; by is greater than 0. */
        static int nearestRatio(int x, int by) {
            int size = div(2 * Math.abs(x) + by - 1, 2 * by);
            return x < 0 ? -size : size;
        }

        /** Finds lattice, values and ranks anew; returns how many places have another rank. */
        int regrow() {
            System.arraycopy(ranks, 0, oldRanks, 0, MOST_AREA);
            lattice.span(a, b, c, d, 0);
            findNeighbors();
            findValues();
            findRanks();
            int changed = 0;
            for (int place = 0; place < area(); place++) {
                if (at(ranks, place) != at(oldRanks, place)) {
                    changed++;
                }
            }
            return changed;
        }

        void findNeighbors() {
            for (int place = 0; place < area(); place++) {
                int y = floorDiv(place, lattice.w);
                int x = place - y * lattice.w;
                for (int direction = 0; direction < DIRECTIONS; direction++) {
                    int number = lattice.numberOf(x + at(STEP_X, direction), y + at(STEP_Y, direction));
                    put(neighbors, DIRECTIONS * place + direction, number);
                }
            }
        }

        void findValues() {
            if (spot == LINE) {
                findLineValues();
                return;
            }
            if (spot != DOUBLE) {
                findLeast(values, spot, middle);
                return;
            }
            findLeast(values, ROUND, middle);
            findLeast(otherValues, ROUND, !middle);
            for (int place = 0; place < area(); place++) {
                put(values, place, at(values, place) - at(otherValues, place));
            }
        }

        void findLineValues() {
            int det = a * d - b * c;
            int cycle = 2 * area();
            for (int place = 0; place < area(); place++) {
                int y = floorDiv(place, lattice.w);
                int x = place - y * lattice.w;
                // The other centers differ from the one taken here by all multiples of the cycle.
                int rest = mod(2 * (x * b - y * a) + (middle ? det : 0), cycle);
                put(values, place, Math.min(rest, cycle - rest));
            }
        }

        /** Looks at the pixels round one center: each place has a pixel there that is as near as any. */
        void findLeast(int[] row, int measure, boolean inMiddle) {
            for (int place = 0; place < area(); place++) {
                put(row, place, FAR);
            }
            int twiceX = inMiddle ? a + c : 0;
            int twiceY = inMiddle ? b + d : 0;
            int midX = Math.floorDiv(twiceX, 2);
            int midY = Math.floorDiv(twiceY, 2);
            for (int y = midY - REACH; y <= midY + REACH; y++) {
                for (int x = midX - REACH; x <= midX + REACH; x++) {
                    int place = lattice.numberOf(x, y);
                    int size = measured(measure, Math.abs(2 * x - twiceX), Math.abs(2 * y - twiceY));
                    put(row, place, Math.min(size, at(row, place)));
                }
            }
        }

        static int measured(int measure, int u, int v) {
            if (measure == DIAMOND) {
                return u + v;
            }
            return measure == SQUARE ? Math.max(u, v) : u * u + v * v;
        }

        void findRanks() {
            for (int place = 0; place < area(); place++) {
                int rank = 0;
                for (int other = 0; other < area(); other++) {
                    if (isBefore(other, place)) {
                        rank++;
                    }
                }
                put(ranks, place, rank);
                put(order, rank, place);
            }
        }

        boolean isBefore(int one, int other) {
            int value = at(values, one);
            int otherValue = at(values, other);
            return value < otherValue || value == otherValue && one < other;
        }

        int strengthOf(int steps, int gain) {
            int sum = 0;
            for (int place = 0; place < area(); place++) {
                sum += inksPlace(place, steps) ? FULL : Math.min(FULL, gain * inkedNeighbors(place, steps));
            }
            return sum;
        }

        int inkedNeighbors(int place, int steps) {
            int number = 0;
            for (int direction = 0; direction < DIRECTIONS; direction++) {
                if (inksPlace(neighbor(place, direction), steps)) {
                    number++;
                }
            }
            return number;
        }
    }

    /** The dots of one tint: each is walked through once, from place to neighboring place. */
    private static final class Dots {
        final int[] reached = new int[MOST_AREA];
        final int[] walkedX = new int[MOST_AREA];
        final int[] walkedY = new int[MOST_AREA];
        final int[] waiting = new int[MOST_AREA];
        int waitingNumber;
        int number;
        int mostJoined;
        int joinedTimes;
        int joinedX;
        int joinedY;

        void examine(Screen screen, int steps) {
            number = 0;
            mostJoined = 0;
            for (int place = 0; place < MOST_AREA; place++) {
                put(reached, place, 0);
            }
            for (int place = 0; place < screen.area(); place++) {
                if (screen.inksPlace(place, steps) && at(reached, place) == 0) {
                    number++;
                    walkThrough(screen, steps, place);
                    mostJoined = Math.max(mostJoined, joinedTimes);
                }
            }
        }

        void walkThrough(Screen screen, int steps, int start) {
            joinedTimes = 0;
            waitingNumber = 0;
            reach(start, 0, 0);
            for (int next = 0; next < MOST_AREA && next < waitingNumber; next++) {
                int place = at(waiting, next);
                for (int direction = 0; direction < DIRECTIONS; direction++) {
                    int neighbor = screen.neighbor(place, direction);
                    if (screen.inksPlace(neighbor, steps)) {
                        int x = at(walkedX, place) + at(STEP_X, direction);
                        int y = at(walkedY, place) + at(STEP_Y, direction);
                        reach(neighbor, x, y);
                    }
                }
            }
        }

        void reach(int place, int x, int y) {
            if (at(reached, place) == 1) {
                join(x - at(walkedX, place), y - at(walkedY, place));
                return;
            }
            put(reached, place, 1);
            put(walkedX, place, x);
            put(walkedY, place, y);
            put(waiting, waitingNumber, place);
            waitingNumber++;
        }

        /** The dot has two pixels of one place, with this difference. */
        void join(int x, int y) {
            if (x == 0 && y == 0) {
                return;
            }
            if (joinedTimes == 0) {
                joinedTimes = 1;
                joinedX = x;
                joinedY = y;
            } else if (x * joinedY != y * joinedX) {
                joinedTimes = 2;
            }
        }
    }

    /** The input buffer and what was last read in it. */
    private static final class Input {
        static final int BEFORE_NUMBER = 0;
        static final int AFTER_MINUS = 1;
        static final int AFTER_NUMBER = 2;
        static final int AFTER_LETTER = 3;
        static final int AFTER_STAR = 4;

        final int[] codes = new int[MOST_CODES];
        final int[] parts = new int[4];
        int length;
        int phase;
        int part;
        boolean negative;
        int spot;
        boolean middle;

        int add(int code) {
            put(codes, length, code);
            length++;
            return length;
        }

        boolean isComplete() {
            return read() == length && (phase == AFTER_LETTER || phase == AFTER_STAR);
        }

        /** Reads up to the first syntax error; returns its index, or the length. */
        int read() {
            phase = BEFORE_NUMBER;
            part = 0;
            negative = false;
            spot = ROUND;
            middle = false;
            for (int index = 0; index < length; index++) {
                if (!take(at(codes, index))) {
                    return index;
                }
            }
            return length;
        }

        boolean take(int code) {
            switch (phase) {
                case BEFORE_NUMBER:
                    return takeMinus(code) || takeDigit(code);
                case AFTER_MINUS:
                    return takeDigit(code);
                case AFTER_NUMBER:
                    return part < 3 ? takeSeparator(code) : takeLetter(code);
                case AFTER_LETTER:
                    return takeStar(code);
                default:
                    return false;
            }
        }

        boolean takeMinus(int code) {
            if (code != '-') {
                return false;
            }
            negative = true;
            phase = AFTER_MINUS;
            return true;
        }

        boolean takeDigit(int code) {
            if (code < '0' || code > '8') {
                return false;
            }
            put(parts, part, negative ? '0' - code : code - '0');
            phase = AFTER_NUMBER;
            return true;
        }

        boolean takeSeparator(int code) {
            if (code != (part == 1 ? ';' : ',')) {
                return false;
            }
            part++;
            negative = false;
            phase = BEFORE_NUMBER;
            return true;
        }

        boolean takeLetter(int code) {
            switch (code) {
                case 'r':
                    spot = ROUND;
                    break;
                case 'd':
                    spot = DIAMOND;
                    break;
                case 's':
                    spot = SQUARE;
                    break;
                case 'l':
                    spot = LINE;
                    break;
                case 'b':
                    spot = DOUBLE;
                    break;
                default:
                    return false;
            }
            phase = AFTER_LETTER;
            return true;
        }

        boolean takeStar(int code) {
            if (code != '*') {
                return false;
            }
            middle = true;
            phase = AFTER_STAR;
            return true;
        }
    }
}

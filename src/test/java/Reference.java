import java.util.ArrayList;
import java.util.Arrays;
import java.util.List;

/**
 * A slow second form of the document, word by word: points of lattices are found by trying them,
 * values by looking at all centers of a wide window, dots by filling the plane. It shares no
 * method of computing with the class that it checks.
 */
final class Reference {
    private static final int WIDE = 45;
    private static final int PLANE = 66;

    static final class Screen {
        int a, b, c, d, spot, tint;
        boolean middle;
        int w, s, h;
        int[] values, ranks;

        int det() {
            return a * d - b * c;
        }

        int area() {
            return Math.abs(det());
        }

        boolean isPoint(int x, int y) {
            return (x * d - y * c) % det() == 0 && (a * y - b * x) % det() == 0;
        }

        void findBasis() {
            int[] basis = basisOf((x, y) -> isPoint(x, y));
            w = basis[0];
            s = basis[1];
            h = basis[2];
        }

        int placeOf(int x, int y) {
            for (int py = 0; py < h; py++) {
                for (int px = 0; px < w; px++) {
                    if (isPoint(x - px, y - py)) {
                        return py * w + px;
                    }
                }
            }
            throw new AssertionError("a pixel without a place");
        }

        int leastAt(int x, int y, int measure, boolean inMiddle) {
            int moveX = inMiddle ? a + c : 0;
            int moveY = inMiddle ? b + d : 0;
            int least = Integer.MAX_VALUE;
            for (int px = x - WIDE; px <= x + WIDE; px++) {
                for (int py = y - WIDE; py <= y + WIDE; py++) {
                    if (isPoint(px, py)) {
                        int dx = 2 * x - 2 * px - moveX;
                        int dy = 2 * y - 2 * py - moveY;
                        int u = Math.abs(dx);
                        int v = Math.abs(dy);
                        int[] sizes = {u * u + v * v, u + v, Math.max(u, v), Math.abs(dx * b - dy * a)};
                        least = Math.min(least, sizes[measure]);
                    }
                }
            }
            return least;
        }

        void grow() {
            findBasis();
            values = new int[area()];
            ranks = new int[area()];
            List<Integer> order = new ArrayList<>();
            for (int place = 0; place < area(); place++) {
                int x = place % w;
                int y = place / w;
                values[place] = spot == 4
                        ? leastAt(x, y, 0, middle) - leastAt(x, y, 0, !middle)
                        : leastAt(x, y, spot, middle);
                order.add(place);
            }
            order.sort((one, other) -> values[one] != values[other]
                    ? Integer.compare(values[one], values[other]) : Integer.compare(one, other));
            for (int rank = 0; rank < order.size(); rank++) {
                ranks[order.get(rank)] = rank;
            }
        }

        boolean inks(int x, int y, int steps) {
            return ranks[placeOf(x, y)] < steps;
        }

        /** The number of dots, and how often the tint is joined. */
        int[] dots(int steps) {
            int[][] places = new int[2 * PLANE + 1][2 * PLANE + 1];
            for (int x = -PLANE; x <= PLANE; x++) {
                for (int y = -PLANE; y <= PLANE; y++) {
                    places[x + PLANE][y + PLANE] = placeFast(x, y);
                }
            }
            boolean[] done = new boolean[area()];
            int[] found = {0, 0};
            for (int x = 0; x < w; x++) {
                for (int y = 0; y < h; y++) {
                    int place = places[x + PLANE][y + PLANE];
                    if (ranks[place] < steps && !done[place]) {
                        found[0]++;
                        found[1] = Math.max(found[1], fill(places, x, y, steps, done));
                    }
                }
            }
            return found;
        }

        private int placeFast(int x, int y) {
            // By the residues that tell one place from another, each looked up once.
            return table()[Math.floorMod(x, area())][Math.floorMod(y, area())];
        }

        private int[][] table;
        private int tableFor;

        private int[][] table() {
            int key = Arrays.hashCode(new int[] {a, b, c, d});
            if (table == null || tableFor != key) {
                table = new int[area()][area()];
                for (int x = 0; x < area(); x++) {
                    for (int y = 0; y < area(); y++) {
                        table[x][y] = placeOf(x, y);
                    }
                }
                tableFor = key;
            }
            return table;
        }

        private int fill(int[][] places, int startX, int startY, int steps, boolean[] done) {
            int side = 2 * PLANE + 1;
            boolean[][] seen = new boolean[side][side];
            int[] stackX = new int[side * side];
            int[] stackY = new int[side * side];
            int height = 1;
            stackX[0] = startX + PLANE;
            stackY[0] = startY + PLANE;
            seen[stackX[0]][stackY[0]] = true;
            int[] firstX = new int[area()];
            int[] firstY = new int[area()];
            boolean[] has = new boolean[area()];
            List<int[]> differences = new ArrayList<>();
            while (height > 0) {
                height--;
                int x = stackX[height];
                int y = stackY[height];
                int place = places[x][y];
                done[place] = true;
                if (has[place]) {
                    differences.add(new int[] {x - firstX[place], y - firstY[place]});
                } else {
                    has[place] = true;
                    firstX[place] = x;
                    firstY[place] = y;
                }
                int[][] near = {{x + 1, y}, {x - 1, y}, {x, y + 1}, {x, y - 1}};
                for (int[] to : near) {
                    if (to[0] >= 0 && to[0] < side && to[1] >= 0 && to[1] < side
                            && !seen[to[0]][to[1]] && ranks[places[to[0]][to[1]]] < steps) {
                        seen[to[0]][to[1]] = true;
                        stackX[height] = to[0];
                        stackY[height] = to[1];
                        height++;
                    }
                }
            }
            if (differences.isEmpty()) {
                return 0;
            }
            int[] one = differences.get(0);
            for (int[] other : differences) {
                if (one[0] * other[1] != one[1] * other[0]) {
                    return 2;
                }
            }
            return 1;
        }

        int strength(int steps, int gain) {
            int sum = 0;
            for (int y = 0; y < h; y++) {
                for (int x = 0; x < w; x++) {
                    int near = 0;
                    int[][] to = {{x + 1, y}, {x - 1, y}, {x, y + 1}, {x, y - 1}};
                    for (int[] pixel : to) {
                        near += inks(pixel[0], pixel[1], steps) ? 1 : 0;
                    }
                    sum += inks(x, y, steps) ? 100 : Math.min(100, gain * near);
                }
            }
            return sum;
        }
    }

    interface Points {
        boolean has(int x, int y);
    }

    /** w, s and h of the lattice of these points. */
    static int[] basisOf(Points points) {
        int w = 1;
        while (!points.has(w, 0)) {
            w++;
        }
        for (int h = 1;; h++) {
            for (int s = 0; s < w; s++) {
                if (points.has(s, h)) {
                    return new int[] {w, s, h};
                }
            }
        }
    }

    final Screen[] screens = new Screen[3];
    int gain = 0;
    String text = "";

    private Screen slot(int slot) {
        if (slot < 0 || slot > 2) {
            throw new IndexOutOfBoundsException();
        }
        return screens[slot];
    }

    private static void argument(boolean holds) {
        if (!holds) {
            throw new IllegalArgumentException();
        }
    }

    private static void state(boolean holds) {
        if (!holds) {
            throw new IllegalStateException();
        }
    }

    private static boolean in(int x, int least, int most) {
        return x >= least && x <= most;
    }

    int append(int code) {
        argument(in(code, 32, 126));
        state(text.length() < 20);
        text += (char) code;
        return text.length();
    }

    int clearInput() {
        int length = text.length();
        text = "";
        return length;
    }

    private static final String TEXT = "-?[0-8],-?[0-8];-?[0-8],-?[0-8][rdslb]\\*?";

    /** Whether some text of a screen begins so: what is missing is tried at the end. */
    private static boolean begins(String start) {
        String[] ends = {"", "0", "0,0", ",0", "0;0,0r", ";0,0r", "0,0r", ",0r", "0r", "r", "0,0;0,0r", ",0;0,0r"};
        for (String end : ends) {
            if ((start + end).matches(TEXT)) {
                return true;
            }
        }
        return false;
    }

    int firstError() {
        for (int length = 1; length <= text.length(); length++) {
            if (!begins(text.substring(0, length))) {
                return length - 1;
            }
        }
        return text.length();
    }

    int load(int slot) {
        slot(slot);
        state(text.matches(TEXT));
        String[] parts = text.replaceAll("[rdslb].*", "").split("[,;]");
        Screen screen = new Screen();
        screen.a = Integer.parseInt(parts[0]);
        screen.b = Integer.parseInt(parts[1]);
        screen.c = Integer.parseInt(parts[2]);
        screen.d = Integer.parseInt(parts[3]);
        screen.middle = text.endsWith("*");
        screen.spot = "rdslb".indexOf(text.replaceAll("[^rdslb]", ""));
        argument(in(screen.area(), 1, 64));
        screen.grow();
        screens[slot] = screen;
        text = "";
        return screen.area();
    }

    int setScreen(int slot, int a, int b, int c, int d, int spot) {
        slot(slot);
        argument(in(a, -8, 8) && in(b, -8, 8) && in(c, -8, 8) && in(d, -8, 8) && in(spot, 0, 4));
        Screen screen = new Screen();
        screen.a = a;
        screen.b = b;
        screen.c = c;
        screen.d = d;
        screen.spot = spot;
        argument(in(screen.area(), 1, 64));
        screen.grow();
        screens[slot] = screen;
        return screen.area();
    }

    int remove(int slot) {
        state(slot(slot) != null);
        screens[slot] = null;
        return count(0);
    }

    private static int regrow(Screen screen) {
        int[] before = screen.ranks;
        screen.grow();
        int changed = 0;
        for (int place = 0; place < before.length; place++) {
            changed += before[place] != screen.ranks[place] ? 1 : 0;
        }
        return changed;
    }

    int setCenter(int slot, boolean middle) {
        Screen screen = slot(slot);
        state(screen != null);
        screen.middle = middle;
        return regrow(screen);
    }

    int turn(int slot, int how) {
        Screen screen = slot(slot);
        argument(in(how, 0, 2));
        state(screen != null);
        int[][] turned = new int[2][];
        int[][] vectors = {{screen.a, screen.b}, {screen.c, screen.d}};
        for (int i = 0; i < 2; i++) {
            int x = vectors[i][0];
            int y = vectors[i][1];
            turned[i] = new int[][] {{-y, x}, {-x, y}, {y, x}}[how];
        }
        screen.a = turned[0][0];
        screen.b = turned[0][1];
        screen.c = turned[1][0];
        screen.d = turned[1][1];
        return regrow(screen);
    }

    int shorten(int slot) {
        Screen screen = slot(slot);
        state(screen != null);
        int times = 0;
        while (true) {
            if (Math.hypot(screen.c, screen.d) < Math.hypot(screen.a, screen.b) - 1e-9) {
                int[] old = {screen.a, screen.b};
                screen.a = screen.c;
                screen.b = screen.d;
                screen.c = old[0];
                screen.d = old[1];
            }
            double ratio = (double) (screen.a * screen.c + screen.b * screen.d)
                    / (screen.a * screen.a + screen.b * screen.b);
            int m = (int) (Math.signum(ratio) * Math.ceil(Math.abs(ratio) - 0.5));
            if (m == 0) {
                regrow(screen);
                return times;
            }
            screen.c -= m * screen.a;
            screen.d -= m * screen.b;
            times++;
        }
    }

    private Screen withSteps(int slot, int steps) {
        Screen screen = slot(slot);
        state(screen != null);
        argument(in(steps, 0, screen.area()));
        return screen;
    }

    int setTint(int slot, int steps) {
        Screen screen = withSteps(slot, steps);
        int previous = screen.tint;
        screen.tint = steps;
        return previous;
    }

    int setGain(int gain) {
        argument(in(gain, 0, 100));
        int previous = this.gain;
        this.gain = gain;
        return previous;
    }

    int screen(int slot, int what) {
        Screen it = slot(slot);
        argument(in(what, 0, 10));
        state(it != null);
        return new int[] {it.a, it.b, it.c, it.d, it.area(), it.w, it.s, it.h, it.spot,
            it.middle ? 1 : 0, it.tint}[what];
    }

    int place(int slot, int x, int y) {
        Screen screen = slot(slot);
        argument(in(x, -10000, 10000) && in(y, -10000, 10000));
        state(screen != null);
        return screen.placeOf(x, y);
    }

    int growth(int slot, int place, int what) {
        Screen screen = slot(slot);
        argument(in(what, 0, 1));
        state(screen != null && in(place, 0, screen.area() - 1));
        return what == 0 ? screen.values[place] : screen.ranks[place];
    }

    int placeOf(int slot, int rank) {
        Screen screen = slot(slot);
        state(screen != null && in(rank, 0, screen.area() - 1));
        int place = 0;
        while (screen.ranks[place] != rank) {
            place++;
        }
        return place;
    }

    int pixel(int x, int y) {
        argument(in(x, -10000, 10000) && in(y, -10000, 10000));
        int inks = 0;
        for (int slot = 0; slot < 3; slot++) {
            inks += screens[slot] != null && screens[slot].inks(x, y, screens[slot].tint) ? 1 << slot : 0;
        }
        return inks;
    }

    int inked(int slot, int x, int y, int width, int height) {
        Screen screen = slot(slot);
        argument(in(x, -10000, 10000) && in(y, -10000, 10000) && in(width, 1, 64) && in(height, 1, 64));
        state(screen != null);
        int number = 0;
        for (int px = x; px < x + width; px++) {
            for (int py = y; py < y + height; py++) {
                number += screen.inks(px, py, screen.tint) ? 1 : 0;
            }
        }
        return number;
    }

    int dots(int slot, int steps) {
        return withSteps(slot, steps).dots(steps)[0];
    }

    int joined(int slot, int steps) {
        return withSteps(slot, steps).dots(steps)[1];
    }

    int firstJoined(int slot, int times) {
        Screen screen = slot(slot);
        argument(in(times, 1, 2));
        state(screen != null);
        int steps = 0;
        while (screen.dots(steps)[1] < times) {
            steps++;
        }
        return steps;
    }

    int strength(int slot, int steps) {
        return withSteps(slot, steps).strength(steps, gain);
    }

    double meanStrength(int slot) {
        Screen screen = slot(slot);
        state(screen != null);
        return (double) screen.strength(screen.tint, gain) / screen.area();
    }

    int compensated(int slot, int wanted) {
        Screen screen = slot(slot);
        argument(in(wanted, 0, 100));
        state(screen != null);
        int[] off = new int[screen.area() + 1];
        for (int steps = 0; steps <= screen.area(); steps++) {
            off[steps] = Math.abs(screen.strength(steps, gain) - wanted * screen.area());
        }
        int least = Arrays.stream(off).min().getAsInt();
        int steps = 0;
        while (off[steps] != least) {
            steps++;
        }
        return steps;
    }

    private static int number(int[] basis, int what) {
        return new int[] {basis[0] * basis[2], basis[0], basis[1], basis[2]}[what];
    }

    private int[] periodOf(int slots) {
        return basisOf((x, y) -> {
            for (int slot = 0; slot < 3; slot++) {
                if ((slots & 1 << slot) != 0 && !screens[slot].isPoint(x, y)) {
                    return false;
                }
            }
            return true;
        });
    }

    private int present() {
        int slots = 0;
        for (int slot = 0; slot < 3; slot++) {
            slots += screens[slot] != null ? 1 << slot : 0;
        }
        return slots;
    }

    int period(int slots, int what) {
        argument(in(slots, 1, 7) && in(what, 0, 3));
        state((slots & ~present()) == 0);
        return number(periodOf(slots), what);
    }

    int beat(int one, int other, int what) {
        Screen first = slot(one);
        Screen second = slot(other);
        argument(in(what, 0, 3));
        state(first != null && second != null);
        int all = second.area();
        return number(basisOf((x, y) -> {
            for (int i = 0; i < all; i++) {
                for (int j = 0; j < all; j++) {
                    if (second.isPoint(x - i * first.a - j * first.c, y - i * first.b - j * first.d)) {
                        return true;
                    }
                }
            }
            return false;
        }), what);
    }

    int mixture(int inks) {
        argument(in(inks, 0, 7));
        state(present() != 0);
        int[] basis = periodOf(present());
        state(number(basis, 0) <= 4096);
        int number = 0;
        for (int x = 0; x < basis[0]; x++) {
            for (int y = 0; y < basis[2]; y++) {
                number += pixel(x, y) == inks ? 1 : 0;
            }
        }
        return number;
    }

    int nearest(int p, int q, int most, int what) {
        argument(in(p, 0, 1000) && in(q, 1, 1000) && in(most, 1, 128) && in(what, 0, 2));
        List<long[]> vectors = new ArrayList<>();
        for (int x = 1; x <= 8; x++) {
            for (int y = 0; y <= 8; y++) {
                if (x * x + y * y <= most) {
                    vectors.add(new long[] {x, y, Math.abs(x * p - y * q), x * x + y * y});
                }
            }
        }
        vectors.sort((one, other) -> {
            int byError = Long.compare(one[2] * one[2] * other[3], other[2] * other[2] * one[3]);
            int bySquare = Long.compare(one[3], other[3]);
            return byError != 0 ? byError : bySquare != 0 ? bySquare : Long.compare(one[0], other[0]);
        });
        return (int) vectors.get(0)[what];
    }

    int count(int what) {
        argument(in(what, 0, 4));
        int number = 0;
        int areas = 0;
        int tints = 0;
        for (Screen screen : screens) {
            if (screen != null) {
                number++;
                areas += screen.area();
                tints += screen.tint;
            }
        }
        return new int[] {number, areas, tints, gain, text.length()}[what];
    }

    long digest() {
        List<Integer> values = new ArrayList<>();
        for (int what = 0; what <= 4; what++) {
            values.add(count(what));
        }
        for (int slot = 0; slot < 3; slot++) {
            Screen screen = screens[slot];
            values.add(screen == null ? 0 : 1);
            if (screen != null) {
                for (int what = 0; what <= 10; what++) {
                    values.add(screen(slot, what));
                }
                for (int place = 0; place < screen.area(); place++) {
                    values.add(screen.values[place]);
                    values.add(screen.ranks[place]);
                }
                values.add(dots(slot, screen.tint));
                values.add(joined(slot, screen.tint));
                values.add(strength(slot, screen.tint));
            }
        }
        int[][] pairs = {{0, 1}, {0, 2}, {1, 2}};
        for (int[] pair : pairs) {
            if (screens[pair[0]] != null && screens[pair[1]] != null) {
                for (int what = 0; what <= 3; what++) {
                    values.add(period((1 << pair[0]) + (1 << pair[1]), what));
                }
                for (int what = 0; what <= 3; what++) {
                    values.add(beat(pair[0], pair[1], what));
                }
            }
        }
        for (int index = 0; index < text.length(); index++) {
            values.add((int) text.charAt(index));
        }
        long hash = 1951;
        for (int value : values) {
            hash = 31 * hash + value;
        }
        return hash;
    }
}

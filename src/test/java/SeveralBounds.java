/** Promises 25 to 28, a test for each sentence that names a boundary case. */
final class SeveralBounds {
    private SeveralBounds() {
    }

    static void testAll() {
        promise25();
        promise25Refused();
        promise26();
        promise26Refused();
        promise27();
        promise27Refused();
        promise28();
        promise28Bounds();
    }

    private static HalftoneScreens three(int... components) {
        HalftoneScreens x = new HalftoneScreens();
        for (int slot = 0; slot < 3; slot++) {
            int at = 4 * slot;
            x.setScreen(slot, components[at], components[at + 1], components[at + 2], components[at + 3], 0);
        }
        return x;
    }

    private static void period(HalftoneScreens x, int slots, int... due) {
        for (int what = 0; what < due.length; what++) {
            Due.same("period(" + slots + ", " + what + ")", x.period(slots, what), due[what]);
        }
    }

    private static void beat(HalftoneScreens x, int one, int other, int... due) {
        for (int what = 0; what < due.length; what++) {
            Due.same("beat(" + one + ", " + other + ", " + what + ")", x.beat(one, other, what), due[what]);
            Due.same("beat(" + other + ", " + one + ", " + what + ")", x.beat(other, one, what), due[what]);
        }
    }

    private static void promise25() {
        Sentence.test(25, "slots: the sum of 1, 2 and 4 for the slots 0, 1 and 2, 1 to 7", () -> {
            HalftoneScreens x = three(2, 0, 0, 1, 3, 0, 0, 1, 5, 0, 0, 1);
            period(x, 1, 2, 2, 0, 1);
            period(x, 2, 3, 3, 0, 1);
            period(x, 3, 6, 6, 0, 1);
            period(x, 4, 5, 5, 0, 1);
            period(x, 5, 10, 10, 0, 1);
            period(x, 6, 15, 15, 0, 1);
            period(x, 7, 30, 30, 0, 1);
            Sentence.badOutside(x, "period of slots", 1, 7, it -> x.period(it, 0));
        });
        Sentence.test(25, "what: 0 for its area, 1 for w, 2 for s, 3 for h", () -> {
            HalftoneScreens x = three(3, 1, -1, 3, 4, 0, 0, 4, 2, 2, -2, 2);
            period(x, 7, 80, 20, 12, 4);
            Sentence.badOutside(x, "period, what", 0, 3, it -> x.period(7, it));
        });
        Sentence.test(25, "The period of some screens is the lattice of all points that belong to all of "
            + "their lattices", () -> {
            // Of one screen, of equal ones, and with the lattice of all pixels.
            HalftoneScreens x = three(3, 1, -1, 3, -1, 3, 2, 4, 1, 0, 0, 1);
            for (int slots = 1; slots <= 7; slots++) {
                if (slots == 4) {
                    period(x, slots, 1, 1, 0, 1);
                } else {
                    period(x, slots, 10, 10, 3, 1);
                }
            }
            // s is 0 modulo 8, and 1 modulo 63 and 61; the areas have no common divisor.
            HalftoneScreens y = three(8, 0, 0, 8, 8, 1, 1, 8, 8, 3, 1, 8);
            period(y, 7, 64 * 63 * 61, 8 * 63 * 61, 19216, 8);
            // The one lies in the other.
            HalftoneScreens z = three(8, 0, 0, 8, 4, 4, -4, 4, 2, 0, 0, 2);
            period(z, 7, 64, 8, 0, 8);
            period(z, 6, 32, 8, 4, 4);
        });
    }

    private static void promise25Refused() {
        Sentence.test(25, "Throws IllegalArgumentException if slots or what is out of range", () -> {
            HalftoneScreens x = Sentence.all();
            Sentence.badArgument(x, "period(0, 0)", () -> x.period(0, 0));
            Sentence.badArgument(x, "period(8, 0)", () -> x.period(8, 0));
            Sentence.badArgument(x, "period(15, 0)", () -> x.period(15, 0));
            Sentence.badArgument(x, "period(-1, 0)", () -> x.period(-1, 0));
            Sentence.badArgument(x, "period(1, -1)", () -> x.period(1, -1));
            Sentence.badArgument(x, "period(1, 4)", () -> x.period(1, 4));
            Sentence.badArgument(x, "period(8, 4)", () -> x.period(8, 4));
        });
        Sentence.test(25, "Throws IllegalStateException if one of these slots has no screen", () -> {
            for (int empty = 0; empty < 3; empty++) {
                HalftoneScreens x = Sentence.all();
                x.remove(empty);
                for (int slots = 1; slots <= 7; slots++) {
                    int it = slots;
                    if ((slots >> empty & 1) == 1) {
                        Sentence.badState(x, "period(" + slots + ", 3) without slot " + empty, () -> x.period(it, 3));
                    } else {
                        Due.same("period(" + slots + ", 0) without slot " + empty, x.period(it, 0) > 0 ? 1 : 0, 1);
                    }
                }
            }
        });
        Sentence.test(25, Sentence.FIRST_NAMED, () -> {
            HalftoneScreens x = new HalftoneScreens();
            Sentence.badOutside(x, "period without screens, slots", 1, 7, it -> x.period(it, 0));
            Sentence.badOutside(x, "period without screens, what", 0, 3, it -> x.period(7, it));
        });
    }

    private static void promise26() {
        Sentence.test(26, "the beat of two screens is the lattice of all sums of a point of the one and a "
            + "point of the other lattice", () -> {
            HalftoneScreens x = three(3, 1, -1, 3, 3, 1, -1, 3, 1, 0, 0, 1);
            beat(x, 0, 1, 10, 10, 3, 1);
            beat(x, 0, 2, 1, 1, 0, 1);
            HalftoneScreens y = three(8, 0, 0, 8, 4, 4, -4, 4, 8, 1, 1, 8);
            beat(y, 0, 1, 32, 8, 4, 4);
            beat(y, 0, 2, 1, 1, 0, 1);
            HalftoneScreens z = three(6, 0, 0, 1, 4, 0, 0, 1, 0, 6, 1, 0);
            beat(z, 0, 1, 2, 2, 0, 1);
            beat(z, 0, 2, 1, 1, 0, 1);
        });
        Sentence.test(26, "Returns a number of the beat of two screens.", () -> {
            // The same slot twice: the sums are points of its own lattice.
            HalftoneScreens x = three(3, 1, -1, 3, 8, -1, 0, 8, 1, 0, 0, 1);
            beat(x, 0, 0, 10, 10, 3, 1);
            beat(x, 1, 1, 64, 64, 56, 1);
            beat(x, 2, 2, 1, 1, 0, 1);
        });
        Sentence.test(26, "what: 0 for its area, 1 for w, 2 for s, 3 for h", () -> {
            HalftoneScreens x = three(3, 1, -1, 3, 4, 0, 0, 4, 2, 2, -2, 2);
            beat(x, 1, 2, 8, 4, 2, 2);
        });
    }

    private static void promise26Refused() {
        Sentence.test(26, "Throws IndexOutOfBoundsException if one or other is not 0 to 2", () -> {
            HalftoneScreens x = Sentence.all();
            Sentence.noSlotOutside(x, "beat, one", slot -> x.beat(slot, 2, 0));
            Sentence.noSlotOutside(x, "beat, other", slot -> x.beat(0, slot, 0));
            Sentence.noSlotOutside(x, "beat, both", slot -> x.beat(slot, slot, 0));
        });
        Sentence.test(26, "Throws IllegalArgumentException if what is not 0 to 3", () -> {
            HalftoneScreens x = Sentence.all();
            Sentence.badOutside(x, "beat", 0, 3, it -> x.beat(0, 1, it));
        });
        Sentence.test(26, "Throws IllegalStateException if one of these slots has no screen", () -> {
            Sentence.needsScreen("beat of one slot", (x, slot) -> x.beat(slot, slot, 0));
            for (int empty = 0; empty < 3; empty++) {
                HalftoneScreens x = Sentence.all();
                int it = empty;
                int full = (empty + 1) % 3;
                x.remove(empty);
                Sentence.badState(x, "beat, one is " + empty, () -> x.beat(it, full, 0));
                Sentence.badState(x, "beat, other is " + empty, () -> x.beat(full, it, 0));
            }
        });
        Sentence.test(26, Sentence.FIRST_NAMED, () -> {
            HalftoneScreens x = new HalftoneScreens();
            Sentence.noSlotOutside(x, "beat, one, what is 4", slot -> x.beat(slot, 0, 4));
            Sentence.noSlotOutside(x, "beat, other, what is 4", slot -> x.beat(0, slot, 4));
            Sentence.noSlotOutside(x, "beat, other, without screens", slot -> x.beat(0, slot, 0));
            Sentence.badOutside(x, "beat without screens", 0, 3, it -> x.beat(0, 1, it));
        });
    }

    private static void mixture(HalftoneScreens x, int... due) {
        for (int inks = 0; inks < due.length; inks++) {
            Due.same("mixture(" + inks + ")", x.mixture(inks), due[inks]);
        }
    }

    private static void promise27() {
        Sentence.test(27, "inks: the sum of 1, 2 and 4 for the slots 0, 1 and 2, 0 to 7", () -> {
            HalftoneScreens x = three(2, 0, 0, 1, 3, 0, 0, 1, 1, 0, 0, 5);
            mixture(x, 30, 0, 0, 0, 0, 0, 0, 0);
            x.setTint(0, 1);
            x.setTint(1, 1);
            x.setTint(2, 1);
            mixture(x, 8, 8, 4, 4, 2, 2, 1, 1);
            x.setTint(0, 2);
            x.setTint(1, 3);
            x.setTint(2, 5);
            mixture(x, 0, 0, 0, 0, 0, 0, 0, 30);
            Sentence.badOutside(x, "mixture", 0, 7, it -> x.mixture(it));
        });
        Sentence.test(27, "Counts the pixels with some inks, in one cell of the period of all screens that "
            + "there are.", () -> {
            HalftoneScreens x = Sentence.with(1, 0, 0, 1, 0);
            mixture(x, 1, 0, 0, 0, 0, 0, 0, 0);
            x.setTint(0, 1);
            mixture(x, 0, 1, 0, 0, 0, 0, 0, 0);
            HalftoneScreens y = three(2, 0, 0, 1, 3, 0, 0, 1, 1, 0, 0, 5);
            y.setTint(1, 2);
            mixture(y, 10, 0, 20, 0, 0, 0, 0, 0);
            y.remove(2);
            mixture(y, 2, 0, 4, 0, 0, 0, 0, 0);
            y.remove(1);
            mixture(y, 2, 0, 0, 0, 0, 0, 0, 0);
        });
    }

    private static void promise27Refused() {
        Sentence.test(27, "Throws IllegalArgumentException if inks is not 0 to 7", () -> {
            HalftoneScreens x = Sentence.all();
            Sentence.badOutside(x, "mixture", 0, 7, it -> x.mixture(it));
        });
        Sentence.test(27, "Throws IllegalStateException if there is no screen, or the area of the period is "
            + "greater than 4096", () -> {
            HalftoneScreens x = new HalftoneScreens();
            Sentence.badState(x, "mixture(0) without screens", () -> x.mixture(0));
            Sentence.badState(x, "mixture(7) without screens", () -> x.mixture(7));
            HalftoneScreens y = three(8, 1, 0, 8, 1, 8, 8, 0, 1, 0, 0, 1);
            Due.same("area of the period", y.period(7, 0), 4096);
            mixture(y, 4096, 0);
            // No area of a period is from 4097 to 4099, which have too great prime factors.
            HalftoneScreens z = three(3, -2, 1, -4, 1, -5, -8, -1, 2, 0, 4, 5);
            Due.same("area of the period", z.period(7, 0), 4100);
            Sentence.badState(z, "mixture(0) of 4100 pixels", () -> z.mixture(0));
            Sentence.badState(z, "mixture(7) of 4100 pixels", () -> z.mixture(7));
            z.remove(2);
            mixture(z, 410, 0);
        });
        Sentence.test(27, Sentence.FIRST_NAMED, () -> {
            HalftoneScreens x = new HalftoneScreens();
            Sentence.badOutside(x, "mixture without screens", 0, 7, it -> x.mixture(it));
            HalftoneScreens y = three(8, 0, 0, 8, 8, 1, 1, 8, 8, 3, 1, 8);
            Sentence.badOutside(y, "mixture of a great period", 0, 7, it -> y.mixture(it));
        });
    }

    private static void near(int p, int q, int most, int... due) {
        HalftoneScreens x = new HalftoneScreens();
        for (int what = 0; what < 3; what++) {
            Due.same("nearest(" + p + ", " + q + ", " + most + ", " + what + ")", x.nearest(p, q, most, what), due[what]);
        }
    }

    private static void promise28() {
        Sentence.test(28, "of several the one with the least x * x + y * y, of these the one with the least x", () -> {
            // (1, 0) to (8, 0) have the same error, and so have all multiples of a vector. That two
            // vectors of one length have the least error happens for no arguments (all were tried).
            near(0, 1, 128, 1, 0, 0);
            near(0, 1000, 128, 1, 0, 0);
            near(1, 1000, 128, 1, 0, 1);
            near(1000, 1000, 128, 1, 1, 0);
            near(500, 1000, 128, 2, 1, 0);
            near(1000, 250, 128, 1, 4, 0);
            near(2, 3, 128, 3, 2, 0);
        });
        Sentence.test(28, "Of all vectors with x from 1 to 8, y from 0 to 8 and x * x + y * y at most a bound, "
            + "the one with the least error is found", () -> {
                near(8, 1, 65, 1, 8, 0);
                near(8, 1, 64, 1, 7, 1);
                near(1, 8, 65, 8, 1, 0);
                near(1, 8, 64, 7, 1, 1);
                near(7, 8, 113, 8, 7, 0);
                near(7, 8, 112, 7, 6, 1);
                // Directions above (1, 8) and below (8, 1), which no vector comes nearer to.
                near(9, 1, 128, 1, 8, 1);
                near(1000, 1, 128, 1, 8, 992);
                near(1, 9, 128, 8, 1, 1);
                near(1000, 1, 1, 1, 0, 1000);
                near(1000, 1, 2, 1, 1, 999);
                // Between vectors of other lengths, the error counts, not e.
                near(577, 1000, 128, 7, 4, 39);
                near(268, 1000, 128, 7, 2, 124);
                near(268, 1000, 52, 4, 1, 72);
                near(1, 3, 9, 2, 1, 1);
                near(2, 5, 4, 1, 0, 2);
            });
    }

    private static void promise28Bounds() {
        HalftoneScreens x = Sentence.all();
        Sentence.test(28, "p: rise of the given direction, 0 to 1000", () -> {
            near(0, 1, 1, 1, 0, 0);
            near(1000, 125, 128, 1, 8, 0);
            Sentence.badOutside(x, "nearest, p", 0, 1000, it -> x.nearest(it, 1, 1, 0));
        });
        Sentence.test(28, "q: run of the given direction, 1 to 1000", () -> {
            near(5, 1, 128, 1, 5, 0);
            near(125, 1000, 128, 8, 1, 0);
            Sentence.badOutside(x, "nearest, q", 1, 1000, it -> x.nearest(1, it, 1, 0));
        });
        Sentence.test(28, "most: the bound, 1 to 128", () -> {
            near(1, 1, 1, 1, 0, 1);
            near(1, 1, 128, 1, 1, 0);
            Sentence.badOutside(x, "nearest, most", 1, 128, it -> x.nearest(1, 1, it, 0));
        });
        Sentence.test(28, "what: 0 for x, 1 for y, 2 for e", () -> {
            near(577, 1000, 128, 7, 4, 39);
            Sentence.badOutside(x, "nearest, what", 0, 2, it -> x.nearest(1, 1, 1, it));
        });
        Sentence.test(28, "Throws IllegalArgumentException if an argument is out of range", () -> {
            HalftoneScreens y = new HalftoneScreens();
            Sentence.badArgument(y, "nearest, no direction", () -> y.nearest(0, 0, 1, 0));
            Sentence.badArgument(y, "nearest, all too small", () -> y.nearest(-1, 0, 0, -1));
            Sentence.badArgument(y, "nearest, all too large", () -> y.nearest(1001, 1001, 129, 3));
        });
    }
}

/** Promises 22 to 24, a test for each sentence that names a boundary case. */
final class GainBounds {
    private GainBounds() {
    }

    static void testAll() {
        promise22();
        Sentence.refusesSteps(22, "strength", (x, slot, steps) -> x.strength(slot, steps));
        promise23();
        promise24();
        promise24Refused();
    }

    private static void strength(HalftoneScreens x, int gain, int steps, int due) {
        x.setGain(gain);
        Due.same("strength(0, " + steps + ") by gain " + gain, x.strength(0, steps), due);
    }

    private static void promise22() {
        Sentence.test(22, "The strength of an inked pixel is 100; that of another pixel is the gain times the number "
            + "of its neighbors that are inked, but at most 100.", () -> {
                // The other pixel has two inked neighbors, of one place.
                HalftoneScreens x = Sentence.with(2, 0, 0, 1, 0);
                strength(x, 0, 1, 100);
                strength(x, 1, 1, 102);
                strength(x, 49, 1, 198);
                strength(x, 50, 1, 200);
                strength(x, 51, 1, 200);
                strength(x, 100, 1, 200);
                // The other pixel has four inked neighbors.
                HalftoneScreens y = Sentence.with(1, 1, -1, 1, 0);
                strength(y, 24, 1, 196);
                strength(y, 25, 1, 200);
                strength(y, 26, 1, 200);
                // Four other pixels have one inked neighbor, all further ones none.
                HalftoneScreens z = Sentence.with(8, 0, 0, 8, 0);
                strength(z, 99, 1, 496);
                strength(z, 100, 1, 500);
            });
        Sentence.test(22, "The strength of a tint is the sum of the strengths of one pixel of each place.", () -> {
            HalftoneScreens x = Sentence.with(8, 0, 0, 8, 0);
            for (int gain = 0; gain <= 100; gain += 50) {
                strength(x, gain, 0, 0);
                strength(x, gain, 64, 6400);
            }
            HalftoneScreens y = Sentence.with(1, 0, 0, 1, 0);
            strength(y, 100, 0, 0);
            strength(y, 100, 1, 100);
        });
        Sentence.test(22, "steps: 0 to its area", () -> {
            HalftoneScreens x = Sentence.one();
            x.setTint(0, 7);
            strength(x, 0, 0, 0);
            strength(x, 0, 10, 1000);
            Due.same("tint after it", x.screen(0, 10), 7);
            Sentence.badOutside(x, "strength", 0, 10, it -> x.strength(0, it));
        });
    }

    private static void mean(HalftoneScreens x, int tint, double due) {
        x.setTint(0, tint);
        Due.sameDouble("meanStrength by tint " + tint, x.meanStrength(0), due);
    }

    private static void promise23() {
        Sentence.test(23, "Returns the strength of its tint, as a double, divided by its area.", () -> {
            HalftoneScreens x = Sentence.with(8, 0, 0, 8, 0);
            mean(x, 0, 0.0);
            mean(x, 1, 1.5625);
            mean(x, 64, 100.0);
            x.setGain(100);
            mean(x, 0, 0.0);
            mean(x, 1, 7.8125);
            mean(x, 64, 100.0);
            HalftoneScreens y = Sentence.with(3, 0, 0, 1, 0);
            mean(y, 1, 100.0 / 3);
            mean(y, 2, 200.0 / 3);
            mean(y, 3, 100.0);
            HalftoneScreens z = Sentence.with(1, 0, 0, 1, 0);
            mean(z, 0, 0.0);
            mean(z, 1, 100.0);
        });
        Sentence.test(23, Sentence.NO_SLOT, () -> {
            HalftoneScreens x = Sentence.all();
            Sentence.noSlotOutside(x, "meanStrength", slot -> x.meanStrength(slot));
        });
        Sentence.test(23, Sentence.NO_SCREEN, () -> Sentence.needsScreen("meanStrength", (x, slot) -> x.meanStrength(slot)));
        Sentence.test(23, Sentence.FIRST_NAMED, () -> {
            HalftoneScreens x = new HalftoneScreens();
            Sentence.noSlotOutside(x, "meanStrength, without screens", slot -> x.meanStrength(slot));
        });
    }

    private static void compensated(HalftoneScreens x, int wanted, int due) {
        Due.same("compensated(0, " + wanted + ")", x.compensated(0, wanted), due);
    }

    private static void promise24() {
        Sentence.test(24, "Returns the number of steps for which the absolute difference of the strength and "
            + "wanted times the area "
            + "is least; of several the least one.", () -> {
                // The strengths are 0, 100 and 200, and wanted times the area between two of them.
                HalftoneScreens x = Sentence.with(2, 0, 0, 1, 0);
                compensated(x, 24, 0);
                compensated(x, 25, 0);
                compensated(x, 26, 1);
                compensated(x, 74, 1);
                compensated(x, 75, 1);
                compensated(x, 76, 2);
                // Now they are 0, 200 and 200.
                x.setGain(50);
                compensated(x, 50, 0);
                compensated(x, 51, 1);
                compensated(x, 100, 1);
                HalftoneScreens y = Sentence.with(1, 0, 0, 1, 0);
                compensated(y, 50, 0);
                compensated(y, 51, 1);
            });
        Sentence.test(24, "wanted: 0 to 100", () -> {
            HalftoneScreens x = Sentence.with(8, 0, 0, 8, 0);
            x.setTint(0, 9);
            compensated(x, 0, 0);
            compensated(x, 100, 64);
            x.setGain(1);
            compensated(x, 0, 0);
            compensated(x, 100, 64);
            Due.same("tint after it", x.screen(0, 10), 9);
            Sentence.badOutside(x, "compensated", 0, 100, it -> x.compensated(0, it));
        });
    }

    private static void promise24Refused() {
        Sentence.test(24, Sentence.NO_SLOT, () -> {
            HalftoneScreens x = Sentence.all();
            Sentence.noSlotOutside(x, "compensated", slot -> x.compensated(slot, 0));
        });
        Sentence.test(24, "Throws IllegalArgumentException if wanted is out of range", () -> {
            HalftoneScreens x = Sentence.all();
            for (int slot = 0; slot < 3; slot++) {
                int it = slot;
                Sentence.badOutside(x, "compensated of slot " + slot, 0, 100, wanted -> x.compensated(it, wanted));
            }
        });
        Sentence.test(24, Sentence.NO_SCREEN, () -> {
            Sentence.needsScreen("compensated, 0", (x, slot) -> x.compensated(slot, 0));
            Sentence.needsScreen("compensated, 100", (x, slot) -> x.compensated(slot, 100));
        });
        Sentence.test(24, Sentence.FIRST_NAMED, () -> {
            HalftoneScreens x = new HalftoneScreens();
            Sentence.noSlotOutside(x, "compensated, 101", slot -> x.compensated(slot, 101));
            Sentence.noSlotOutside(x, "compensated, without screens", slot -> x.compensated(slot, 0));
            Sentence.badOutside(x, "compensated of an empty slot", 0, 100, it -> x.compensated(0, it));
        });
    }
}

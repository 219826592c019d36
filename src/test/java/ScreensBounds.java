/** Promises 6 to 13, a test for each sentence that names a boundary case. */
final class ScreensBounds {
    private ScreensBounds() {
    }

    static void testAll() {
        promise6();
        promise6Refused();
        promise7();
        promise8();
        promise9();
        promise10();
        promise10Refused();
        promise11();
        promise12();
        promise13();
        promise13Basis();
    }

    private static void promise6() {
        Sentence.test(6, "its area is the absolute value of a * d - b * c, which must be 1 to 64", () -> {
            HalftoneScreens x = new HalftoneScreens();
            Due.same("area 1", x.setScreen(0, 8, 7, 7, 6, 0), 1);
            Due.same("area 1 of the other sign", x.setScreen(0, 7, 6, 8, 7, 0), 1);
            Due.same("area 64", x.setScreen(0, 8, 0, 0, 8, 0), 64);
            Due.same("area 64 of the other sign", x.setScreen(0, 8, 0, 8, -8, 0), 64);
            Due.same("area 63", x.setScreen(0, 8, 1, 1, 8, 0), 63);
            Sentence.badArgument(x, "area 0 of one line", () -> x.setScreen(0, 8, -4, -6, 3, 0));
            Sentence.badArgument(x, "area 0 without a vector", () -> x.setScreen(0, 0, 0, 8, 8, 0));
            Sentence.badArgument(x, "area 65", () -> x.setScreen(0, 8, -1, 1, 8, 0));
            Sentence.badArgument(x, "area 65 of the other sign", () -> x.setScreen(0, 1, 8, 8, -1, 0));
            Sentence.badArgument(x, "area 128", () -> x.setScreen(0, 8, -8, 8, 8, 0));
        });
        Sentence.test(6, "which are -8 to 8 when it is put into its slot (shorten can make some of them larger)", () -> {
            HalftoneScreens x = new HalftoneScreens();
            Due.same("greatest components", x.setScreen(0, 8, 8, 8, 7, 0), 8);
            Sentence.properties(x, 0, 8, 8, 8, 7);
            Due.same("least components", x.setScreen(0, -8, -8, -7, -8, 0), 8);
            Sentence.properties(x, 0, -8, -8, -7, -8);
            Sentence.badOutside(x, "a", -8, 8, it -> x.setScreen(0, it, 0, 0, 1, 0));
            Sentence.badOutside(x, "b", -8, 8, it -> x.setScreen(0, 1, it, 0, 1, 0));
            Sentence.badOutside(x, "c", -8, 8, it -> x.setScreen(0, 1, 0, it, 1, 0));
            Sentence.badOutside(x, "d", -8, 8, it -> x.setScreen(0, 1, 0, 0, it, 0));
        });
        Sentence.test(6, "spot: 0 to 4", () -> {
            HalftoneScreens x = new HalftoneScreens();
            for (int spot = 0; spot <= 4; spot++) {
                Due.same("spot " + spot, x.setScreen(0, 2, 0, 0, 2, spot), 4);
                Due.same("screen(0, 8)", x.screen(0, 8), spot);
            }
            Sentence.badOutside(x, "spot", 0, 4, it -> x.setScreen(0, 2, 0, 0, 2, it));
        });
        Sentence.test(6, "Puts a screen into a slot, in place of the one there, centered at the points of its lattice, "
            + "with a tint of 0 steps.", () -> {
                HalftoneScreens x = Sentence.all();
                Due.same("setScreen of slot 1", x.setScreen(1, 1, 0, 0, 2, 1), 2);
                Sentence.properties(x, 1, 1, 0, 0, 2, 2, 1, 0, 2, 1, 0, 0);
                Due.same("screens", x.count(0), 3);
                Due.same("tints of the other slots", x.count(2), 12);
                Due.same("the same screen once more", x.setScreen(1, 1, 0, 0, 2, 1), 2);
            });
        Sentence.test(6, "Each screen has a tint (0 steps at first).", () -> {
            HalftoneScreens x = Sentence.one();
            Due.same("setTint(0, 1)", x.setTint(0, 1), 0);
        });
    }

    private static void promise6Refused() {
        Sentence.test(6, Sentence.NO_SLOT, () -> {
            HalftoneScreens x = Sentence.all();
            Sentence.noSlotOutside(x, "setScreen", slot -> x.setScreen(slot, 1, 0, 0, 1, 0));
            Due.same("setScreen of slot 0", x.setScreen(0, 1, 0, 0, 1, 0), 1);
            Due.same("setScreen of slot 2", x.setScreen(2, 1, 0, 0, 1, 0), 1);
        });
        Sentence.test(6, "Throws IllegalArgumentException if a component is not -8 to 8, "
            + "or the spot or the area is out of range", () -> {
                HalftoneScreens x = Sentence.all();
                Sentence.badArgument(x, "a component of 9", () -> x.setScreen(0, 9, 1, 1, 1, 0));
                Sentence.badArgument(x, "a component of -9", () -> x.setScreen(0, 1, 1, 1, -9, 0));
                Sentence.badArgument(x, "spot 5", () -> x.setScreen(0, 1, 0, 0, 1, 5));
                Sentence.badArgument(x, "spot -1", () -> x.setScreen(0, 1, 0, 0, 1, -1));
                Sentence.badArgument(x, "area 0", () -> x.setScreen(0, 1, 1, 1, 1, 0));
                Sentence.badArgument(x, "area 65", () -> x.setScreen(0, 8, 1, -1, 8, 0));
                // In int arithmetic these would wrap round to areas of 1 and 4.
                Sentence.badArgument(x, "an area of 2 to the 32 less 1", () -> x.setScreen(0, 65537, 0, 0, 65535, 0));
                Sentence.badArgument(x, "an area that wraps round", () -> x.setScreen(0, 1 << 30, 1, -4, 8, 0));
            });
        Sentence.test(6, Sentence.FIRST_NAMED, () -> {
            HalftoneScreens x = Sentence.all();
            Sentence.noSlotOutside(x, "setScreen with a component of 9", slot -> x.setScreen(slot, 9, 0, 0, 1, 0));
            Sentence.noSlotOutside(x, "setScreen with spot 5", slot -> x.setScreen(slot, 1, 0, 0, 1, 5));
            Sentence.noSlotOutside(x, "setScreen with area 0", slot -> x.setScreen(slot, 0, 0, 0, 0, 0));
        });
        Sentence.test(6, Sentence.CHANGES_NOTHING, () -> {
            HalftoneScreens x = Sentence.all();
            Sentence.badArgument(x, "setScreen with area 0", () -> x.setScreen(1, 2, 2, 2, 2, 0));
            Sentence.properties(x, 1, 4, 0, 0, 4, 16, 4, 0, 4, 4, 1, 7);
            HalftoneScreens y = new HalftoneScreens();
            Sentence.badArgument(y, "setScreen with spot 9", () -> y.setScreen(1, 2, 0, 0, 2, 9));
            Sentence.badState(y, "screen of the slot", () -> y.screen(1, 0));
        });
    }

    private static void promise7() {
        Sentence.test(7, "Returns how many screens are left.", () -> {
            HalftoneScreens x = Sentence.all();
            Due.same("remove the first of three", x.remove(1), 2);
            Due.same("remove the second of three", x.remove(0), 1);
            Due.same("remove the last one", x.remove(2), 0);
            Due.same("count(1)", x.count(1), 0);
            Due.same("count(2)", x.count(2), 0);
        });
        Sentence.test(7, Sentence.NO_SLOT, () -> {
            HalftoneScreens x = Sentence.all();
            Sentence.noSlotOutside(x, "remove", slot -> x.remove(slot));
            Due.same("remove from slot 2", x.remove(2), 2);
            Due.same("remove from slot 0", x.remove(0), 1);
        });
        Sentence.test(7, Sentence.NO_SCREEN, () -> Sentence.needsScreen("remove", (x, slot) -> x.remove(slot)));
        Sentence.test(7, Sentence.FIRST_NAMED, () -> {
            HalftoneScreens x = new HalftoneScreens();
            Sentence.noSlotOutside(x, "remove, without screens", slot -> x.remove(slot));
        });
        Sentence.test(7, Sentence.CHANGES_NOTHING, () -> {
            HalftoneScreens x = Sentence.all();
            x.remove(0);
            Sentence.badState(x, "remove twice", () -> x.remove(0));
            Due.same("screens", x.count(0), 2);
            Due.same("sum of areas", x.count(1), 24);
        });
    }

    private static void promise8() {
        Sentence.test(8, "Returns how many places have another rank than before.", () -> {
            HalftoneScreens x = Sentence.with(1, 0, 0, 1, 0);
            Due.same("none of one place", x.setCenter(0, true), 0);
            HalftoneScreens y = Sentence.with(2, 0, 0, 1, 0);
            Due.same("none, as nothing changes", y.setCenter(0, false), 0);
            // In the middle, (1, 0) is nearer than (0, 0): both places change.
            Due.same("all of two places", y.setCenter(0, true), 2);
            Due.same("none, as it is in the middle", y.setCenter(0, true), 0);
            Due.same("all of two places, back", y.setCenter(0, false), 2);
            HalftoneScreens z = Sentence.with(8, 0, 0, 1, 3);
            Due.same("none of a flat line", z.setCenter(0, true), 0);
        });
        Sentence.test(8, "the points of the lattice moved by half of (a + c, b + d)", () -> {
            HalftoneScreens x = Sentence.with(3, 0, 0, 1, 0);
            x.setCenter(0, true);
            // The centers are at half a pixel: (1.5, 0.5).
            Due.same("value of place 0", x.growth(0, 0, 0), 10);
            Due.same("value of place 1", x.growth(0, 1, 0), 2);
            Due.same("value of place 2", x.growth(0, 2, 0), 2);
            HalftoneScreens y = Sentence.with(-3, 0, 0, -1, 0);
            y.setCenter(0, true);
            Due.same("value of place 0, below 0", y.growth(0, 0, 0), 10);
            Due.same("value of place 1, below 0", y.growth(0, 1, 0), 2);
            // The center (1, 2) has place 5, and (0.5, 1.5) lies between four pixels.
            HalftoneScreens z = Sentence.one();
            z.setCenter(0, true);
            int[] whole = {20, 8, 4, 8, 4, 0, 4, 8, 4, 8};
            for (int place = 0; place < 10; place++) {
                Due.same("value of place " + place + " of 10", z.growth(0, place, 0), whole[place]);
            }
            z.setScreen(0, 2, 1, -1, 2, 0);
            z.setCenter(0, true);
            int[] half = {10, 2, 2, 2, 2};
            for (int place = 0; place < 5; place++) {
                Due.same("value of place " + place + " of 5", z.growth(0, place, 0), half[place]);
            }
        });
        Sentence.test(8, Sentence.NO_SLOT, () -> {
            HalftoneScreens x = Sentence.all();
            Sentence.noSlotOutside(x, "setCenter", slot -> x.setCenter(slot, true));
            Sentence.noSlotOutside(x, "setCenter back", slot -> x.setCenter(slot, false));
        });
        Sentence.test(8, Sentence.NO_SCREEN, () -> {
            Sentence.needsScreen("setCenter", (x, slot) -> x.setCenter(slot, true));
            Sentence.needsScreen("setCenter back", (x, slot) -> x.setCenter(slot, false));
        });
        Sentence.test(8, Sentence.FIRST_NAMED, () -> {
            HalftoneScreens x = new HalftoneScreens();
            Sentence.noSlotOutside(x, "setCenter, without screens", slot -> x.setCenter(slot, true));
        });
        Sentence.test(8, Sentence.CHANGES_NOTHING, () -> {
            HalftoneScreens x = new HalftoneScreens();
            Sentence.badState(x, "setCenter of an empty slot", () -> x.setCenter(0, true));
            x.setScreen(0, 2, 0, 0, 1, 0);
            Due.same("screen(0, 9)", x.screen(0, 9), 0);
            x.setCenter(0, true);
            x.remove(0);
            x.setScreen(0, 2, 0, 0, 1, 0);
            Due.same("screen(0, 9) after remove and setScreen", x.screen(0, 9), 0);
        });
    }

    private static void promise9() {
        Sentence.test(9, "how: 0 if (x, y) becomes (-y, x), 1 if (x, y) becomes (-x, y), 2 if (x, y) becomes (y, x)", () -> {
            HalftoneScreens x = Sentence.with(8, -7, 2, -1, 0);
            x.turn(0, 0);
            Sentence.properties(x, 0, 7, 8, 1, 2, 6);
            x.turn(0, 1);
            Sentence.properties(x, 0, -7, 8, -1, 2, 6);
            x.turn(0, 2);
            Sentence.properties(x, 0, 8, -7, 2, -1, 6);
            long before = x.digest();
            int[][] round = {{0, 0, 0, 0}, {1, 1}, {2, 2}};
            for (int[] turns : round) {
                for (int how : turns) {
                    x.turn(0, how);
                }
                Due.same("digest after turns by " + turns[0] + " that come round", x.digest(), before);
            }
        });
        Sentence.test(9, "The tint stays.", () -> {
            HalftoneScreens x = Sentence.one();
            x.setTint(0, 10);
            x.turn(0, 0);
            Due.same("the greatest tint", x.screen(0, 10), 10);
            x.setTint(0, 0);
            x.turn(0, 1);
            Due.same("the least tint", x.screen(0, 10), 0);
        });
        Sentence.test(9, "Returns the number of places that have another rank than before.", () -> {
            HalftoneScreens x = Sentence.with(1, 0, 0, 1, 4);
            HalftoneScreens y = Sentence.with(4, 0, 0, 4, 0);
            for (int how = 0; how <= 2; how++) {
                int it = how;
                Due.same("turn by " + how + ", one place", x.turn(0, it), 0);
                Due.same("turn by " + how + ", round and square cells", y.turn(0, it), 0);
            }
            // The line along (2, 0) holds all places of y 0, that along (0, 2) all of x 0.
            HalftoneScreens z = Sentence.with(2, 0, 0, 2, 3);
            Due.same("turn of lines", z.turn(0, 0), 2);
            Due.same("turn of lines back", z.turn(0, 0), 2);
            z.setCenter(0, true);
            Due.same("mirror of lines", z.turn(0, 1), 0);
        });
        Sentence.test(9, Sentence.NO_SLOT, () -> {
            HalftoneScreens x = Sentence.all();
            Sentence.noSlotOutside(x, "turn", slot -> x.turn(slot, 0));
        });
        Sentence.test(9, "Throws IllegalArgumentException if how is not 0 to 2", () -> {
            HalftoneScreens x = Sentence.all();
            Sentence.badOutside(x, "turn by", 0, 2, it -> x.turn(0, it));
        });
        Sentence.test(9, Sentence.NO_SCREEN, () -> {
            Sentence.needsScreen("turn by 0", (x, slot) -> x.turn(slot, 0));
            Sentence.needsScreen("turn by 2", (x, slot) -> x.turn(slot, 2));
        });
        Sentence.test(9, Sentence.FIRST_NAMED, () -> {
            HalftoneScreens x = new HalftoneScreens();
            Sentence.noSlotOutside(x, "turn by 3", slot -> x.turn(slot, 3));
            Sentence.noSlotOutside(x, "turn, without screens", slot -> x.turn(slot, 1));
            Sentence.badOutside(x, "turn of an empty slot by", 0, 2, it -> x.turn(0, it));
        });
        Sentence.test(9, Sentence.CHANGES_NOTHING, () -> {
            HalftoneScreens x = Sentence.all();
            Sentence.badArgument(x, "turn by 3", () -> x.turn(0, 3));
            Sentence.properties(x, 0, 3, 1, -1, 3, 10, 10, 3, 1, 0, 0, 4);
        });
    }

    private static void shortened(int[] from, int times, int... due) {
        HalftoneScreens x = Sentence.with(from[0], from[1], from[2], from[3], 0);
        StringBuilder name = new StringBuilder("shorten");
        for (int component : from) {
            name.append(' ').append(component);
        }
        int area = x.screen(0, 4);
        Due.same(name.toString(), x.shorten(0), times);
        for (int what = 0; what < 4; what++) {
            Due.same(name + ", then screen(0, " + what + ")", x.screen(0, what), due[what]);
        }
        Due.same(name + ", then its area", x.screen(0, 4), area);
        Due.same(name + " once more", x.shorten(0), 0);
    }

    private static int[] from(int... components) {
        return components;
    }

    private static void promise10() {
        Sentence.test(10, "rounded to the nearest integer (halves toward 0)", () -> {
            shortened(from(2, 0, 1, 2), 0, 2, 0, 1, 2);
            shortened(from(2, 0, -1, 2), 0, 2, 0, -1, 2);
            shortened(from(2, 0, 3, 2), 1, 2, 0, 1, 2);
            shortened(from(2, 0, -3, 2), 1, 2, 0, -1, 2);
            shortened(from(2, 0, 5, 2), 1, 2, 0, 1, 2);
            shortened(from(2, 0, -5, 2), 1, 2, 0, -1, 2);
            shortened(from(3, 0, 2, 3), 1, 3, 0, -1, 3);
            shortened(from(3, 0, -2, 3), 1, 3, 0, 1, 3);
            shortened(from(3, 0, 1, 3), 0, 3, 0, 1, 3);
            shortened(from(3, 0, -4, 3), 1, 3, 0, -1, 3);
        });
        Sentence.test(10, "if the second vector is shorter than the first one, they are exchanged", () -> {
            shortened(from(0, 5, 3, 4), 1, 3, -1, 0, 5);
            shortened(from(0, 3, 3, 0), 0, 0, 3, 3, 0);
            shortened(from(-3, 0, 0, -3), 0, -3, 0, 0, -3);
            shortened(from(0, 4, 3, 0), 0, 3, 0, 0, 4);
        });
        Sentence.test(10, "if m is 0, it is done, otherwise m times the first vector is subtracted from the "
            + "second one", () -> {
            shortened(from(1, 0, 0, 1), 0, 1, 0, 0, 1);
            shortened(from(1, 0, 8, 1), 1, 1, 0, 0, 1);
            shortened(from(1, 0, -8, 8), 1, 1, 0, 0, 8);
            shortened(from(1, 0, -1, 1), 1, 1, 0, 0, 1);
        });
        Sentence.test(10, "Returns how often something was subtracted.", () -> {
            shortened(from(8, 0, 0, 8), 0, 8, 0, 0, 8);
            // 5 times (1, 1) is subtracted at once.
            shortened(from(1, 1, 8, 3), 1, 1, 1, 3, -2);
            shortened(from(8, 7, 7, 6), 3, 1, 0, 0, 1);
        });
        Sentence.test(10, "(shorten can make some of them larger)", () -> {
            shortened(from(-1, 2, 8, 8), 1, -1, 2, 10, 4);
            shortened(from(8, 8, 1, -2), 1, 1, -2, 10, 4);
            HalftoneScreens x = Sentence.with(-1, 2, 8, 8, 0);
            x.shorten(0);
            x.setTint(0, 24);
            Due.same("turn of the larger one", x.turn(0, 2) >= 0 ? 1 : 0, 1);
            Sentence.properties(x, 0, 2, -1, 4, 10, 24);
            x.turn(0, 0);
            Sentence.properties(x, 0, 1, 2, -10, 4, 24);
            Due.same("value at a center", x.growth(0, x.place(0, -10, 4), 0), 0);
        });
        Sentence.test(10, "The tint stays, and the screen is centered as before, but with the new vectors.", () -> {
            HalftoneScreens x = Sentence.with(0, 4, 4, 4, 0);
            x.setTint(0, 16);
            Due.same("shorten at the points", x.shorten(0), 1);
            Sentence.properties(x, 0, 0, 4, 4, 0, 16, 4, 0, 4, 0, 0, 16);
            HalftoneScreens y = Sentence.with(0, 4, 4, 4, 0);
            y.setCenter(0, true);
            // The middle (2, 4) of the old vectors becomes (2, 2).
            Due.same("value at (2, 4) before", y.growth(0, y.place(0, 2, 4), 0), 0);
            y.shorten(0);
            Due.same("screen(0, 9)", y.screen(0, 9), 1);
            Due.same("value at (2, 4) after", y.growth(0, y.place(0, 2, 4), 0), 16);
            Due.same("value at (2, 2) after", y.growth(0, y.place(0, 2, 2), 0), 0);
        });
    }

    private static void promise10Refused() {
        Sentence.test(10, Sentence.NO_SLOT, () -> {
            HalftoneScreens x = Sentence.all();
            Sentence.noSlotOutside(x, "shorten", slot -> x.shorten(slot));
        });
        Sentence.test(10, Sentence.NO_SCREEN, () -> Sentence.needsScreen("shorten", (x, slot) -> x.shorten(slot)));
        Sentence.test(10, Sentence.FIRST_NAMED, () -> {
            HalftoneScreens x = new HalftoneScreens();
            Sentence.noSlotOutside(x, "shorten, without screens", slot -> x.shorten(slot));
        });
        Sentence.test(10, Sentence.CHANGES_NOTHING, () -> {
            HalftoneScreens x = Sentence.with(8, 7, 7, 6, 0);
            Sentence.badState(x, "shorten of an empty slot", () -> x.shorten(1));
            Sentence.properties(x, 0, 8, 7, 7, 6);
        });
    }

    private static void promise11() {
        Sentence.test(11, "steps: 0 to its area", () -> {
            HalftoneScreens x = Sentence.with(8, 0, 0, 8, 0);
            x.setScreen(1, 1, 0, 0, 1, 0);
            Due.same("the least", x.setTint(0, 0), 0);
            Due.same("the greatest of 64", x.setTint(0, 64), 0);
            Due.same("the greatest of 1", x.setTint(1, 1), 0);
            Sentence.badOutside(x, "setTint of area 64", 0, 64, it -> x.setTint(0, it));
            Sentence.badOutside(x, "setTint of area 1", 0, 1, it -> x.setTint(1, it));
        });
        Sentence.test(11, "Returns the previous tint.", () -> {
            HalftoneScreens x = Sentence.one();
            Due.same("the first", x.setTint(0, 10), 0);
            Due.same("the second", x.setTint(0, 10), 10);
            Due.same("the third", x.setTint(0, 0), 10);
            Due.same("the fourth", x.setTint(0, 3), 0);
        });
        Sentence.refusesSteps(11, "setTint", (x, slot, steps) -> x.setTint(slot, steps));
        Sentence.test(11, Sentence.CHANGES_NOTHING, () -> {
            HalftoneScreens x = Sentence.all();
            Sentence.badArgument(x, "setTint to 11", () -> x.setTint(0, 11));
            Due.same("setTint to 5", x.setTint(0, 5), 4);
        });
    }

    private static void promise12() {
        Sentence.test(12, "gain: 0 to 100", () -> {
            HalftoneScreens x = new HalftoneScreens();
            Due.same("the greatest", x.setGain(100), 0);
            Due.same("the least", x.setGain(0), 100);
        });
        Sentence.test(12, "Returns the previous gain.", () -> {
            HalftoneScreens x = new HalftoneScreens();
            Due.same("the first", x.setGain(7), 0);
            Due.same("the second", x.setGain(7), 7);
            Due.same("the third", x.setGain(0), 7);
        });
        Sentence.test(12, "Throws IllegalArgumentException if gain is out of range", () -> {
            HalftoneScreens x = Sentence.all();
            Sentence.badOutside(x, "setGain", 0, 100, it -> x.setGain(it));
        });
        Sentence.test(12, Sentence.CHANGES_NOTHING, () -> {
            HalftoneScreens x = Sentence.all();
            Sentence.badArgument(x, "setGain(101)", () -> x.setGain(101));
            Due.same("setGain(1)", x.setGain(1), 25);
        });
    }

    private static void promise13() {
        Sentence.test(13, "what: 0 for a, 1 for b, 2 for c, 3 for d, 4 for its area, 5 for w, 6 for s, 7 for "
            + "h, 8 for its spot, "
            + "9 for 1 if it is centered in the middle, else 0; 10 for its tint", () -> {
                HalftoneScreens x = Sentence.with(-5, 2, 1, -7, 4);
                Sentence.properties(x, 0, -5, 2, 1, -7, 33, 33, 14, 1, 4, 0, 0);
                x.setCenter(0, true);
                x.setTint(0, 33);
                Sentence.properties(x, 0, -5, 2, 1, -7, 33, 33, 14, 1, 4, 1, 33);
            });
        Sentence.test(13, Sentence.NO_SLOT, () -> {
            HalftoneScreens x = Sentence.all();
            Sentence.noSlotOutside(x, "screen", slot -> x.screen(slot, 0));
        });
        Sentence.test(13, "Throws IllegalArgumentException if what is not 0 to 10", () -> {
            HalftoneScreens x = Sentence.all();
            Sentence.badOutside(x, "screen", 0, 10, it -> x.screen(0, it));
        });
        Sentence.test(13, Sentence.NO_SCREEN, () -> {
            Sentence.needsScreen("screen, 0", (x, slot) -> x.screen(slot, 0));
            Sentence.needsScreen("screen, 10", (x, slot) -> x.screen(slot, 10));
        });
        Sentence.test(13, Sentence.FIRST_NAMED, () -> {
            HalftoneScreens x = new HalftoneScreens();
            Sentence.noSlotOutside(x, "screen, 11", slot -> x.screen(slot, 11));
            Sentence.noSlotOutside(x, "screen, 0, without screens", slot -> x.screen(slot, 0));
            Sentence.badOutside(x, "screen of an empty slot", 0, 10, it -> x.screen(0, it));
        });
    }

    private static void basis(int[] from, int w, int s, int h) {
        HalftoneScreens x = Sentence.with(from[0], from[1], from[2], from[3], 0);
        Sentence.properties(x, 0, from[0], from[1], from[2], from[3], w * h, w, s, h);
    }

    private static void promise13Basis() {
        Sentence.test(13, "Each lattice has exactly one basis (w, 0) and (s, h) with w > 0, h > 0 and s from 0 to w - 1, "
            + "where w * h is the area.", () -> {
                basis(from(1, 0, 0, 1), 1, 0, 1);
                basis(from(-1, 0, 0, -1), 1, 0, 1);
                basis(from(8, 0, 0, 8), 8, 0, 8);
                basis(from(0, -8, -8, 0), 8, 0, 8);
                basis(from(8, 1, 0, 8), 64, 8, 1);
                basis(from(8, -1, 0, 8), 64, 56, 1);
                // The greatest s, and how it wraps round to 0 and 1.
                basis(from(5, 0, -1, 1), 5, 4, 1);
                basis(from(5, 0, 5, 1), 5, 0, 1);
                basis(from(5, 0, 6, 1), 5, 1, 1);
                basis(from(-5, 0, 1, -1), 5, 4, 1);
                basis(from(1, 8, 0, 8), 1, 0, 8);
                basis(from(2, 8, 1, 0), 1, 0, 8);
                basis(from(2, 3, 2, -3), 4, 2, 3);
                // Other vectors of the lattice of (3, 1) and (-1, 3).
                basis(from(-1, 3, 3, 1), 10, 3, 1);
                basis(from(-3, -1, 2, 4), 10, 3, 1);
                basis(from(4, -2, 3, 1), 10, 3, 1);
            });
    }
}

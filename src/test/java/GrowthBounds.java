/** Promises 14 to 18, a test for each sentence that names a boundary case. */
final class GrowthBounds {
    private GrowthBounds() {
    }

    static void testAll() {
        promise14();
        promise14Refused();
        promise15();
        promise15Spots();
        promise15Refused();
        promise16();
        promise17();
        promise18();
        promise18Refused();
    }

    private static void places(HalftoneScreens x, int[]... due) {
        for (int[] it : due) {
            Due.same("place(0, " + it[0] + ", " + it[1] + ")", x.place(0, it[0], it[1]), it[2]);
        }
    }

    private static int[] at(int x, int y, int place) {
        return new int[] {x, y, place};
    }

    private static void promise14() {
        Sentence.test(14, "Each place contains exactly one pixel with x from 0 to w - 1 and y from 0 to h - 1; "
            + "the number of the place is y * w + x for this pixel.", () -> {
                // w is 4, s is 1 and h is 3.
                HalftoneScreens x = Sentence.with(4, 0, 1, 3, 0);
                for (int y = 0; y < 3; y++) {
                    for (int left = 0; left < 4; left++) {
                        places(x, at(left, y, 4 * y + left));
                    }
                }
                places(x, at(4, 0, 0), at(-1, 0, 3), at(5, 2, 9), at(0, 3, 3), at(1, 3, 0), at(4, 3, 3));
                places(x, at(0, -1, 9), at(-1, -1, 8), at(-2, -1, 11), at(-1, -3, 0), at(0, -3, 1), at(2, 6, 0));
                places(Sentence.with(1, 0, 0, 1, 0), at(0, 0, 0), at(-1, -1, 0), at(10000, -9999, 0));
            });
        Sentence.test(14, "so there are as many places as the area says", () -> {
            int[][] vectors = {{8, 0, 0, 8}, {8, 1, 0, 8}, {0, 8, 8, 4}, {1, 0, 0, 1}, {7, -6, 6, 4}};
            for (int[] it : vectors) {
                HalftoneScreens x = Sentence.with(it[0], it[1], it[2], it[3], 0);
                int area = x.screen(0, 4);
                int w = x.screen(0, 5);
                boolean[] found = new boolean[area];
                for (int index = 0; index < area; index++) {
                    found[x.place(0, index % w - 9973, index / w - 7)] = true;
                }
                for (int place = 0; place < area; place++) {
                    Due.same("place " + place + " is there", found[place] ? 1 : 0, 1);
                }
            }
        });
        Sentence.test(14, "Two pixels have the same place in the cells of a screen if their difference is a "
            + "point of the lattice",
            () -> places(Sentence.with(3, 1, -1, 3, 0), at(3, 1, 0), at(-1, 3, 0), at(2, 4, 0), at(4, -2, 0),
                at(-3, -1, 0), at(10, 0, 0), at(0, 10, 0), at(0, -10, 0), at(5, 0, 5), at(4, 3, 5)));
        Sentence.test(14, "x: -10000 to 10000", () -> {
            HalftoneScreens x = Sentence.one();
            places(x, at(-10000, 0, 0), at(-9999, 0, 1), at(9999, 0, 9), at(10000, 0, 0));
            Sentence.badOutside(x, "place, x", -10000, 10000, it -> x.place(0, it, 0));
        });
        Sentence.test(14, "y: -10000 to 10000", () -> {
            HalftoneScreens x = Sentence.one();
            places(x, at(0, -10000, 0), at(0, -9999, 7), at(0, 9999, 3), at(0, 10000, 0));
            Sentence.badOutside(x, "place, y", -10000, 10000, it -> x.place(0, 0, it));
        });
    }

    private static void promise14Refused() {
        Sentence.test(14, Sentence.NO_SLOT, () -> {
            HalftoneScreens x = Sentence.all();
            Sentence.noSlotOutside(x, "place", slot -> x.place(slot, 0, 0));
        });
        Sentence.test(14, "Throws IllegalArgumentException if x or y is out of range", () -> {
            HalftoneScreens x = Sentence.all();
            Sentence.badArgument(x, "place, both too small", () -> x.place(0, -10001, -10001));
            Sentence.badArgument(x, "place, both too large", () -> x.place(0, 10001, 10001));
            Sentence.badArgument(x, "place, x too small", () -> x.place(0, -10001, 10000));
            Sentence.badArgument(x, "place, y too large", () -> x.place(0, -10000, 10001));
        });
        Sentence.test(14, Sentence.NO_SCREEN, () -> Sentence.needsScreen("place", (x, slot) -> x.place(slot, 0, 0)));
        Sentence.test(14, Sentence.FIRST_NAMED, () -> {
            HalftoneScreens x = new HalftoneScreens();
            Sentence.noSlotOutside(x, "place, x 10001", slot -> x.place(slot, 10001, 0));
            Sentence.noSlotOutside(x, "place, without screens", slot -> x.place(slot, 0, 0));
            Sentence.badOutside(x, "place in an empty slot, x", -10000, 10000, it -> x.place(0, it, 0));
            Sentence.badOutside(x, "place in an empty slot, y", -10000, 10000, it -> x.place(2, 0, it));
        });
    }

    private static void values(HalftoneScreens x, int... due) {
        for (int place = 0; place < due.length; place++) {
            Due.same("value of place " + place, x.growth(0, place, 0), due[place]);
        }
    }

    private static void order(HalftoneScreens x, int... due) {
        for (int rank = 0; rank < due.length; rank++) {
            Due.same("rank of place " + due[rank], x.growth(0, due[rank], 1), rank);
        }
    }

    private static void promise15() {
        Sentence.test(15, "places with equal values by their numbers", () -> {
            HalftoneScreens x = Sentence.with(8, 0, 0, 1, 3);
            values(x, 0, 0, 0, 0, 0, 0, 0, 0);
            order(x, 0, 1, 2, 3, 4, 5, 6, 7);
            order(Sentence.with(8, 0, 0, 1, 0), 0, 1, 7, 2, 6, 3, 5, 4);
            order(Sentence.with(4, 0, 0, 4, 2), 0, 1, 3, 4, 5, 7, 12, 13, 15, 2, 6, 8, 9, 10, 11, 14);
        });
        Sentence.test(15, "The rank of a place is its index in this order, from 0.", () -> {
            HalftoneScreens x = Sentence.with(8, 0, 0, 8, 0);
            Due.same("the least rank", x.growth(0, 0, 1), 0);
            Due.same("the greatest rank", x.growth(0, 36, 1), 63);
            HalftoneScreens y = Sentence.with(1, 0, 0, 1, 0);
            Due.same("the only rank", y.growth(0, 0, 1), 0);
        });
        Sentence.test(15, "what: 0 for its value, 1 for its rank", () -> {
            HalftoneScreens x = Sentence.one();
            Due.same("value of the first place", x.growth(0, 0, 0), 0);
            Due.same("value of the last place", x.growth(0, 9, 0), 4);
            Due.same("rank of the last place", x.growth(0, 9, 1), 4);
        });
    }

    private static void promise15Spots() {
        Sentence.test(15, "spot 0 (round): the least u * u + v * v for all centers", () -> {
            // The nearest center is the origin at first, then the next one.
            values(Sentence.with(8, 0, 0, 1, 0), 0, 4, 16, 36, 64, 36, 16, 4);
            values(Sentence.with(1, 0, 0, 8, 0), 0, 4, 16, 36, 64, 36, 16, 4);
            HalftoneScreens x = Sentence.with(8, 0, 0, 8, 0);
            Due.same("the farthest place", x.growth(0, 36, 0), 128);
            x.setCenter(0, true);
            Due.same("the farthest place from the middle", x.growth(0, 0, 0), 128);
            HalftoneScreens y = Sentence.with(8, 8, 8, 7, 0);
            values(y, 0, 4, 16, 36, 64, 36, 16, 4);
        });
        Sentence.test(15, "spot 1 (diamond): the least u + v for all centers", () -> {
            values(Sentence.with(8, 0, 0, 1, 1), 0, 2, 4, 6, 8, 6, 4, 2);
            HalftoneScreens x = Sentence.with(8, 0, 0, 8, 1);
            Due.same("the farthest place", x.growth(0, 36, 0), 16);
            HalftoneScreens y = Sentence.with(3, 0, 0, 1, 1);
            y.setCenter(0, true);
            values(y, 4, 2, 2);
        });
        Sentence.test(15, "spot 2 (square): the least number that is the greater one of u and v for a center", () -> {
            values(Sentence.with(8, 0, 0, 1, 2), 0, 2, 4, 6, 8, 6, 4, 2);
            HalftoneScreens x = Sentence.with(8, 0, 0, 8, 2);
            Due.same("the farthest place", x.growth(0, 36, 0), 8);
            HalftoneScreens y = Sentence.with(3, 0, 0, 1, 2);
            y.setCenter(0, true);
            values(y, 3, 1, 1);
        });
        Sentence.test(15, "spot 3 (line): the least absolute value of 2 * ((x - x0) * b - (y - y0) * a) for "
            + "all centers (x0, y0)", () -> {
            values(Sentence.one(), 0, 4, 8, 4, 8, 20, 8, 4, 8, 4);
            values(Sentence.with(3, 1, -1, 3, 3), 0, 2, 4, 6, 8, 10, 8, 6, 4, 2);
            values(Sentence.with(-3, -1, 1, -3, 3), 0, 2, 4, 6, 8, 10, 8, 6, 4, 2);
            HalftoneScreens x = Sentence.with(3, 1, -1, 3, 3);
            x.setCenter(0, true);
            values(x, 10, 8, 6, 4, 2, 0, 2, 4, 6, 8);
            values(Sentence.with(0, 8, -8, 0, 3), 0, 16, 32, 48, 64, 48, 32, 16, 0);
            values(Sentence.with(2, 2, -2, 2, 3), 0, 4, 8, 4, 4, 0, 4, 8);
            values(Sentence.with(2, -2, -2, -2, 3), 0, 4, 8, 4, 4, 8, 4, 0);
        });
        Sentence.test(15, "(in the middle instead of at the points of the lattice, or the other way round)", () -> {
            HalftoneScreens x = Sentence.with(8, 0, 0, 1, 4);
            values(x, -65, -33, -1, 31, 63, 31, -1, -33);
            x.setCenter(0, true);
            values(x, 65, 33, 1, -31, -63, -31, 1, 33);
            HalftoneScreens y = Sentence.with(1, 0, 0, 1, 4);
            values(y, -2);
            order(y, 0);
        });
    }

    private static void promise15Refused() {
        Sentence.test(15, Sentence.NO_SLOT, () -> {
            HalftoneScreens x = Sentence.all();
            Sentence.noSlotOutside(x, "growth", slot -> x.growth(slot, 0, 0));
        });
        Sentence.test(15, "Throws IllegalArgumentException if what is not 0 or 1", () -> {
            HalftoneScreens x = Sentence.all();
            Sentence.badOutside(x, "growth", 0, 1, it -> x.growth(0, 0, it));
        });
        Sentence.test(15, "Throws IllegalStateException if there is no screen, or it has no such place", () -> {
            Sentence.needsScreen("growth", (x, slot) -> x.growth(slot, 0, 0));
            Sentence.needsScreen("growth, 1", (x, slot) -> x.growth(slot, 0, 1));
            HalftoneScreens x = Sentence.with(8, 0, 0, 8, 0);
            int[] bad = {-1, 64, Integer.MIN_VALUE, Integer.MAX_VALUE};
            for (int it : bad) {
                Sentence.badState(x, "value of place " + it, () -> x.growth(0, it, 0));
                Sentence.badState(x, "rank of place " + it, () -> x.growth(0, it, 1));
            }
            Due.same("rank of place 63", x.growth(0, 63, 1) < 64 ? 1 : 0, 1);
            x.setScreen(0, 1, 0, 0, 1, 0);
            Sentence.badState(x, "value of place 1 of one", () -> x.growth(0, 1, 0));
        });
        Sentence.test(15, Sentence.FIRST_NAMED, () -> {
            HalftoneScreens x = Sentence.one();
            Sentence.noSlotOutside(x, "growth, 2", slot -> x.growth(slot, 0, 2));
            Sentence.noSlotOutside(x, "growth of place -1", slot -> x.growth(slot, -1, 0));
            Sentence.badOutside(x, "growth in an empty slot", 0, 1, it -> x.growth(1, 0, it));
            Sentence.badOutside(x, "growth of place 10", 0, 1, it -> x.growth(0, 10, it));
        });
    }

    private static void promise16() {
        Sentence.test(16, "Returns the place with a rank.", () -> {
            HalftoneScreens x = Sentence.one();
            int[] due = {0, 1, 3, 7, 9, 2, 4, 6, 8, 5};
            for (int rank = 0; rank < 10; rank++) {
                Due.same("placeOf(0, " + rank + ")", x.placeOf(0, rank), due[rank]);
            }
            Due.same("the only place", Sentence.with(1, 0, 0, 1, 3).placeOf(0, 0), 0);
            Due.same("the place of rank 63", Sentence.with(8, 0, 0, 8, 0).placeOf(0, 63), 36);
        });
        Sentence.test(16, Sentence.NO_SLOT, () -> {
            HalftoneScreens x = Sentence.all();
            Sentence.noSlotOutside(x, "placeOf", slot -> x.placeOf(slot, 0));
        });
        Sentence.test(16, "Throws IllegalStateException if there is no screen, or it has no place with this rank", () -> {
            Sentence.needsScreen("placeOf", (x, slot) -> x.placeOf(slot, 0));
            HalftoneScreens x = Sentence.with(8, 0, 0, 8, 0);
            int[] bad = {-1, 64, Integer.MIN_VALUE, Integer.MAX_VALUE};
            for (int it : bad) {
                Sentence.badState(x, "placeOf rank " + it, () -> x.placeOf(0, it));
            }
            x.setScreen(0, 1, 0, 0, 1, 0);
            Sentence.badState(x, "placeOf rank 1 of one place", () -> x.placeOf(0, 1));
        });
        Sentence.test(16, Sentence.FIRST_NAMED, () -> {
            HalftoneScreens x = new HalftoneScreens();
            Sentence.noSlotOutside(x, "placeOf, without screens", slot -> x.placeOf(slot, 0));
            Sentence.noSlotOutside(x, "placeOf rank -1", slot -> x.placeOf(slot, -1));
        });
    }

    private static void promise17() {
        Sentence.test(17, "Returns the sum of 1, 2 and 4 for the slots 0, 1 and 2 by whose screen the pixel "
            + "is inked.", () -> {
            HalftoneScreens x = new HalftoneScreens();
            Due.same("without screens", x.pixel(0, 0), 0);
            for (int slots = 0; slots < 8; slots++) {
                for (int slot = 0; slot < 3; slot++) {
                    x.setScreen(slot, 1, 0, 0, 1, 0);
                    x.setTint(slot, slots >> slot & 1);
                }
                Due.same("of slots " + slots, x.pixel(7, -7), slots);
            }
            x.remove(1);
            Due.same("after remove", x.pixel(7, -7), 5);
        });
        Sentence.test(17, "By a tint of k steps, 0 to the area, the pixels of the places with a rank less "
            + "than k are inked.", () -> {
            HalftoneScreens x = Sentence.with(8, 0, 0, 1, 0);
            int[] ranks = {0, 1, 3, 5, 7, 6, 4, 2};
            for (int steps = 0; steps <= 8; steps++) {
                x.setTint(0, steps);
                for (int left = 0; left < 8; left++) {
                    Due.same("pixel " + left + " by tint " + steps, x.pixel(left, 5), ranks[left] < steps ? 1 : 0);
                    Due.same("pixel " + (left - 8) + " by tint " + steps, x.pixel(left - 8, -5), ranks[left] < steps ? 1 : 0);
                }
            }
        });
        Sentence.test(17, "x: -10000 to 10000", () -> {
            HalftoneScreens x = Sentence.with(8, 0, 0, 1, 0);
            x.setTint(0, 1);
            Due.same("the least x", x.pixel(-10000, 0), 1);
            Due.same("the next x", x.pixel(-9999, 0), 0);
            Due.same("the greatest x", x.pixel(10000, 0), 1);
        });
        Sentence.test(17, "y: -10000 to 10000", () -> {
            HalftoneScreens x = Sentence.with(1, 0, 0, 8, 0);
            x.setTint(0, 1);
            Due.same("the least y", x.pixel(0, -10000), 1);
            Due.same("the next y", x.pixel(0, -9999), 0);
            Due.same("the greatest y", x.pixel(0, 10000), 1);
        });
        Sentence.test(17, "Throws IllegalArgumentException if x or y is out of range", () -> {
            HalftoneScreens x = Sentence.all();
            Sentence.badOutside(x, "pixel, x", -10000, 10000, it -> x.pixel(it, 0));
            Sentence.badOutside(x, "pixel, y", -10000, 10000, it -> x.pixel(0, it));
            HalftoneScreens y = new HalftoneScreens();
            Sentence.badOutside(y, "pixel without screens, x", -10000, 10000, it -> y.pixel(it, 0));
            Sentence.badOutside(y, "pixel without screens, y", -10000, 10000, it -> y.pixel(0, it));
        });
    }

    private static void inked(HalftoneScreens x, int left, int top, int width, int height, int due) {
        Due.same("inked(0, " + left + ", " + top + ", " + width + ", " + height + ")",
            x.inked(0, left, top, width, height), due);
    }

    /** The pixels with an x that is a multiple of 8 are inked. */
    private static HalftoneScreens columns() {
        HalftoneScreens x = Sentence.with(8, 0, 0, 1, 0);
        x.setTint(0, 1);
        return x;
    }

    private static void promise18() {
        Sentence.test(18, "Counts the inked pixels of a rectangle, by the tint of one screen.", () -> {
            HalftoneScreens x = columns();
            inked(x, 0, 0, 8, 3, 3);
            inked(x, 1, 0, 7, 3, 0);
            inked(x, 1, 0, 8, 3, 3);
            inked(x, -8, -8, 9, 2, 4);
            x.setTint(0, 0);
            inked(x, -32, -32, 64, 64, 0);
            x.setTint(0, 8);
            inked(x, -32, -32, 64, 64, 4096);
            inked(x, 0, 0, 1, 1, 1);
            x.setScreen(1, 1, 0, 0, 1, 0);
            x.setTint(0, 0);
            x.setTint(1, 1);
            inked(x, 0, 0, 64, 64, 0);
        });
        Sentence.test(18, "x: the least x, -10000 to 10000", () -> {
            HalftoneScreens x = columns();
            inked(x, -10000, 0, 1, 1, 1);
            inked(x, -9999, 0, 7, 1, 0);
            inked(x, 10000, 0, 1, 1, 1);
            inked(x, 10000, 0, 64, 2, 16);
            Sentence.badOutside(x, "inked, x", -10000, 10000, it -> x.inked(0, it, 0, 1, 1));
        });
        Sentence.test(18, "y: the least y, -10000 to 10000", () -> {
            HalftoneScreens x = Sentence.with(1, 0, 0, 8, 0);
            x.setTint(0, 1);
            inked(x, 0, -10000, 1, 1, 1);
            inked(x, 0, -9999, 1, 7, 0);
            inked(x, 0, 10000, 1, 1, 1);
            inked(x, 0, 10000, 2, 64, 16);
            Sentence.badOutside(x, "inked, y", -10000, 10000, it -> x.inked(0, 0, it, 1, 1));
        });
        Sentence.test(18, "width: 1 to 64", () -> {
            HalftoneScreens x = columns();
            inked(x, 0, 0, 1, 1, 1);
            inked(x, 1, 0, 64, 1, 8);
            inked(x, 0, 0, 63, 1, 8);
            Sentence.badOutside(x, "inked, width", 1, 64, it -> x.inked(0, 0, 0, it, 1));
        });
        Sentence.test(18, "height: 1 to 64", () -> {
            HalftoneScreens x = columns();
            inked(x, 0, 5, 1, 1, 1);
            inked(x, 0, 5, 1, 64, 64);
            Sentence.badOutside(x, "inked, height", 1, 64, it -> x.inked(0, 0, 0, 1, it));
        });
    }

    private static void promise18Refused() {
        Sentence.test(18, Sentence.NO_SLOT, () -> {
            HalftoneScreens x = Sentence.all();
            Sentence.noSlotOutside(x, "inked", slot -> x.inked(slot, 0, 0, 1, 1));
        });
        Sentence.test(18, "Throws IllegalArgumentException if another argument is out of range", () -> {
            HalftoneScreens x = Sentence.all();
            Sentence.badArgument(x, "inked, all too small", () -> x.inked(0, -10001, -10001, 0, 0));
            Sentence.badArgument(x, "inked, all too large", () -> x.inked(0, 10001, 10001, 65, 65));
            Sentence.badArgument(x, "inked, empty rectangle", () -> x.inked(0, 0, 0, 0, 0));
            Sentence.badArgument(x, "inked, width below 0", () -> x.inked(0, 0, 0, -1, 64));
        });
        Sentence.test(18, Sentence.NO_SCREEN, () -> Sentence.needsScreen("inked", (x, slot) -> x.inked(slot, 0, 0, 1, 1)));
        Sentence.test(18, Sentence.FIRST_NAMED, () -> {
            HalftoneScreens x = new HalftoneScreens();
            Sentence.noSlotOutside(x, "inked, width 0", slot -> x.inked(slot, 0, 0, 0, 1));
            Sentence.noSlotOutside(x, "inked, without screens", slot -> x.inked(slot, 0, 0, 1, 1));
            Sentence.badOutside(x, "inked in an empty slot, x", -10000, 10000, it -> x.inked(0, it, 0, 1, 1));
            Sentence.badOutside(x, "inked in an empty slot, y", -10000, 10000, it -> x.inked(0, 0, it, 1, 1));
            Sentence.badOutside(x, "inked in an empty slot, width", 1, 64, it -> x.inked(0, 0, 0, it, 1));
            Sentence.badOutside(x, "inked in an empty slot, height", 1, 64, it -> x.inked(0, 0, 0, 1, it));
        });
    }
}

/** Promises 19 to 21, a test for each sentence that names a boundary case. */
final class DotsBounds {
    private DotsBounds() {
    }

    static void testAll() {
        promise19();
        Sentence.refusesSteps(19, "dots", (x, slot, steps) -> x.dots(slot, steps));
        promise20();
        Sentence.refusesSteps(20, "joined", (x, slot, steps) -> x.joined(slot, steps));
        promise21();
    }

    private static void dots(HalftoneScreens x, int steps, int due) {
        Due.same("dots(0, " + steps + ")", x.dots(0, steps), due);
    }

    private static void joined(HalftoneScreens x, int steps, int due) {
        Due.same("joined(0, " + steps + ")", x.joined(0, steps), due);
    }

    private static void promise19() {
        Sentence.test(19, "steps: 0 to its area", () -> {
            int[][] vectors = {{1, 0, 0, 1}, {8, 0, 0, 8}, {8, 1, 0, 8}, {3, 1, -1, 3}};
            for (int[] it : vectors) {
                HalftoneScreens x = Sentence.with(it[0], it[1], it[2], it[3], 0);
                int area = x.screen(0, 4);
                dots(x, 0, 0);
                dots(x, 1, 1);
                dots(x, area, 1);
                Sentence.badOutside(x, "dots of area " + area, 0, area, steps -> x.dots(0, steps));
            }
        });
        Sentence.test(19, "Counts the dots of a screen by a tint (that of the screen does not matter).", () -> {
            HalftoneScreens x = Sentence.with(2, 2, -2, 2, 3);
            for (int tint = 0; tint <= 8; tint++) {
                x.setTint(0, tint);
                dots(x, 0, 0);
                dots(x, 2, 2);
                dots(x, 8, 1);
                Due.same("tint after it", x.screen(0, 10), tint);
            }
        });
        Sentence.test(19, "Two pixels are neighbors if one of their coordinates is the same and the other one "
            + "differs by 1.", () -> {
            // Along the diagonal, 8 pixels that meet at corners; the ninth one is next to two of them.
            HalftoneScreens x = Sentence.with(8, 8, -4, 4, 3);
            for (int steps = 0; steps <= 8; steps++) {
                dots(x, steps, steps);
            }
            dots(x, 9, 7);
        });
        Sentence.test(19, "and to which no further one can be added", () -> {
            // The columns 0, then 1 and 7 beside it, grow together until the plane is full.
            HalftoneScreens x = Sentence.with(8, 0, 0, 1, 0);
            dots(x, 0, 0);
            for (int steps = 1; steps <= 8; steps++) {
                dots(x, steps, 1);
            }
            // Two pixels of the diagonal are two dots, and one beside both of them makes them one.
            HalftoneScreens y = Sentence.with(2, 2, -2, 2, 3);
            dots(y, 2, 2);
            dots(y, 3, 1);
        });
        Sentence.test(19, "dots that differ from each other by a point of the lattice count as one", () -> {
            HalftoneScreens x = Sentence.with(8, 0, 0, 8, 0);
            for (int steps = 1; steps <= 64; steps++) {
                dots(x, steps, 1);
            }
            // Places 0, 1 and 7: what is left of the one cell is the right end of the other one.
            dots(Sentence.with(8, 0, 0, 1, 0), 3, 1);
            dots(Sentence.with(1, 0, 0, 8, 0), 3, 1);
        });
    }

    private static void promise20() {
        Sentence.test(20, "It is joined 0 times if it contains no such two pixels", () -> {
            joined(Sentence.with(1, 1, -1, 1, 0), 1, 0);
            joined(Sentence.with(8, 0, 0, 8, 0), 1, 0);
            // Four places round a center, and corners that meet but do not touch.
            joined(Sentence.with(2, 2, -2, 2, 3), 3, 0);
            joined(Sentence.with(8, 8, -4, 4, 3), 8, 0);
        });
        Sentence.test(20, "once if all such differences are multiples of one vector (positive, negative or "
            + "fractional ones)", () -> {
            joined(Sentence.with(1, 0, 0, 2, 0), 1, 1);
            joined(Sentence.with(0, -2, -1, 0, 0), 1, 1);
            joined(Sentence.with(8, 0, 0, 1, 0), 1, 1);
            joined(Sentence.with(8, 0, 0, 1, 0), 7, 1);
            joined(Sentence.with(8, 0, 0, 8, 3), 8, 1);
            joined(Sentence.with(8, 0, 0, 8, 3), 56, 1);
            joined(Sentence.with(2, 2, -2, 2, 3), 4, 1);
        });
        Sentence.test(20, "twice otherwise", () -> {
            joined(Sentence.with(1, 0, 0, 1, 0), 1, 2);
            joined(Sentence.with(1, 1, -1, 1, 0), 2, 2);
            joined(Sentence.with(8, 0, 0, 1, 0), 8, 2);
            joined(Sentence.with(8, 0, 0, 8, 3), 57, 2);
            joined(Sentence.with(8, 0, 0, 8, 0), 64, 2);
        });
        Sentence.test(20, "A tint is joined as often as that of its dots that is joined most often (0 times "
            + "if there are no dots).", () -> {
            joined(Sentence.with(1, 0, 0, 1, 0), 0, 0);
            joined(Sentence.with(8, 0, 0, 8, 0), 0, 0);
            // Of the diagonals x + y = 0 to 4, 0 is inked alone, and 2 and 3 make stairs.
            HalftoneScreens x = Sentence.with(-8, -7, -3, -2, 3);
            dots(x, 3, 2);
            joined(x, 2, 0);
            joined(x, 3, 1);
            HalftoneScreens y = Sentence.with(-8, -6, -4, -1, 3);
            y.setCenter(0, true);
            dots(y, 12, 2);
            joined(y, 12, 2);
        });
        Sentence.test(20, "steps: 0 to its area", () -> {
            int[][] vectors = {{1, 0, 0, 1}, {8, 0, 0, 8}, {8, 1, 0, 8}, {3, 1, -1, 3}};
            for (int[] it : vectors) {
                HalftoneScreens x = Sentence.with(it[0], it[1], it[2], it[3], 4);
                int area = x.screen(0, 4);
                joined(x, 0, 0);
                joined(x, area, 2);
                Sentence.badOutside(x, "joined of area " + area, 0, area, steps -> x.joined(0, steps));
            }
        });
        Sentence.test(20, "Tells how often a tint of a screen is joined.", () -> {
            HalftoneScreens x = Sentence.with(8, 0, 0, 1, 0);
            x.setTint(0, 8);
            joined(x, 0, 0);
            joined(x, 4, 1);
            Due.same("tint after it", x.screen(0, 10), 8);
        });
    }

    private static void first(HalftoneScreens x, int once, int twice) {
        Due.same("firstJoined(0, 1)", x.firstJoined(0, 1), once);
        Due.same("firstJoined(0, 2)", x.firstJoined(0, 2), twice);
        joined(x, once - 1, 0);
        Due.same("joined before " + twice + " is less than 2", x.joined(0, twice - 1) < 2 ? 1 : 0, 1);
        joined(x, twice, 2);
    }

    private static void promise21() {
        Sentence.test(21, "Returns the least number of steps by which the screen is joined at least so often.", () -> {
            // At once, only by the whole area, and from 0 to 2 times by one step.
            first(Sentence.with(1, 0, 0, 1, 0), 1, 1);
            first(Sentence.with(8, 0, 0, 1, 0), 1, 8);
            first(Sentence.with(1, 1, -1, 1, 0), 2, 2);
            first(Sentence.with(8, 0, 0, 8, 3), 8, 57);
            first(Sentence.with(4, 0, 0, 4, 0), 10, 11);
        });
        Sentence.test(21, "times: 1 or 2", () -> {
            HalftoneScreens x = Sentence.one();
            x.setTint(0, 10);
            Due.same("once", x.firstJoined(0, 1), 6);
            Due.same("twice", x.firstJoined(0, 2), 7);
            Due.same("tint after it", x.screen(0, 10), 10);
        });
        Sentence.test(21, Sentence.NO_SLOT, () -> {
            HalftoneScreens x = Sentence.all();
            Sentence.noSlotOutside(x, "firstJoined", slot -> x.firstJoined(slot, 1));
        });
        Sentence.test(21, "Throws IllegalArgumentException if times is not 1 or 2", () -> {
            HalftoneScreens x = Sentence.all();
            Sentence.badOutside(x, "firstJoined", 1, 2, it -> x.firstJoined(0, it));
        });
        Sentence.test(21, Sentence.NO_SCREEN, () -> {
            Sentence.needsScreen("firstJoined, 1", (x, slot) -> x.firstJoined(slot, 1));
            Sentence.needsScreen("firstJoined, 2", (x, slot) -> x.firstJoined(slot, 2));
        });
        Sentence.test(21, Sentence.FIRST_NAMED, () -> {
            HalftoneScreens x = new HalftoneScreens();
            Sentence.noSlotOutside(x, "firstJoined, 0", slot -> x.firstJoined(slot, 0));
            Sentence.noSlotOutside(x, "firstJoined, without screens", slot -> x.firstJoined(slot, 1));
            Sentence.badOutside(x, "firstJoined of an empty slot", 1, 2, it -> x.firstJoined(0, it));
        });
    }
}

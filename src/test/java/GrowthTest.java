/** Promises 14 to 18: places, values, ranks and inked pixels. */
public final class GrowthTest {
    private static final int[] ROUND_ORDER = {0, 1, 3, 4, 12, 5, 7, 13, 15, 2, 8, 6, 9, 11, 14, 10};

    private GrowthTest() {
    }

    private static HalftoneScreens with(int a, int b, int c, int d, int spot) {
        HalftoneScreens x = new HalftoneScreens();
        x.setScreen(0, a, b, c, d, spot);
        return x;
    }

    private static void promise14() {
        HalftoneScreens x = with(3, 1, -1, 3, 0);
        int[][] due = {{0, 0, 0}, {3, 1, 0}, {1, 0, 1}, {-1, 0, 9}, {0, 1, 7}, {0, -1, 3}, {9, 0, 9}, {10, 0, 0},
            {-10000, 10000, 0}, {10000, -10000, 0}, {-10000, -9999, 7}, {10000, 10000, 0}};
        for (int[] it : due) {
            Due.same("place(0, " + it[0] + ", " + it[1] + ")", x.place(0, it[0], it[1]), it[2]);
        }
        x.setScreen(0, 2, 2, -2, 2, 0);
        int[][] high = {{0, 2, 2}, {3, 3, 5}, {-1, -1, 5}, {3, 1, 7}, {1, -2, 3}, {4, 4, 0}};
        for (int[] it : high) {
            Due.same("place(0, " + it[0] + ", " + it[1] + ") of two rows", x.place(0, it[0], it[1]), it[2]);
        }
        for (int bad = -10001; bad <= 10001; bad += 20002) {
            int it = bad;
            Due.badArgument("place x " + bad, () -> x.place(0, it, 0));
            Due.badArgument("place y " + bad, () -> x.place(0, 0, it));
            Due.badArgument("place in an empty slot, x " + bad, () -> x.place(1, it, 0));
            Due.outOfSlots("place in slot 3, x " + bad, () -> x.place(3, it, 0));
        }
        Due.badState("place in an empty slot", () -> x.place(1, 0, 0));
        Due.outOfSlots("place in slot -1", () -> x.place(-1, 0, 0));
    }

    private static void values(HalftoneScreens x, String name, int... due) {
        for (int place = 0; place < due.length; place++) {
            Due.same(name + ", value of place " + place, x.growth(0, place, 0), due[place]);
        }
    }

    private static void order(HalftoneScreens x, String name, int... due) {
        for (int rank = 0; rank < due.length; rank++) {
            Due.same(name + ", rank of place " + due[rank], x.growth(0, due[rank], 1), rank);
            Due.same(name + ", place of rank " + rank, x.placeOf(0, rank), due[rank]);
        }
    }

    private static void promise15() {
        HalftoneScreens x = with(3, 1, -1, 3, 0);
        values(x, "round", 0, 4, 8, 4, 8, 20, 8, 4, 8, 4);
        order(x, "round", 0, 1, 3, 7, 9, 2, 4, 6, 8, 5);
        x.setScreen(0, 4, 0, 0, 4, 0);
        order(x, "round cells of 4", ROUND_ORDER);
        x.setScreen(0, 4, 0, 0, 4, 1);
        values(x, "diamond", 0, 2, 4, 2, 2, 4, 6, 4, 4, 6, 8, 6, 2, 4, 6, 4);
        x.setScreen(0, 4, 0, 0, 4, 2);
        values(x, "square", 0, 2, 4, 2, 2, 2, 4, 2, 4, 4, 4, 4, 2, 2, 4, 2);
        x.setScreen(0, 4, 0, 0, 4, 3);
        values(x, "line", 0, 0, 0, 0, 8, 8, 8, 8, 16, 16, 16, 16, 8, 8, 8, 8);
        x.setScreen(0, 4, 0, 0, 4, 4);
        values(x, "double", -32, -16, 0, -16, -16, 0, 16, 0, 0, 16, 32, 16, -16, 0, 16, 0);
        x.setCenter(0, true);
        values(x, "double in the middle", 32, 16, 0, 16, 16, 0, -16, 0, 0, -16, -32, -16, 16, 0, -16, 0);
        x.setScreen(0, 3, 0, 0, 1, 0);
        x.setCenter(0, true);
        values(x, "between the pixels", 10, 2, 2);
        x.setScreen(0, 3, 0, 0, 2, 3);
        x.setCenter(0, true);
        values(x, "line in the middle", 6, 6, 6, 0, 0, 0);
        x.setScreen(0, 3, 1, -1, 3, 3);
        values(x, "slanted line", 0, 2, 4, 6, 8, 10, 8, 6, 4, 2);
        refusedGrowth();
    }

    private static void refusedGrowth() {
        HalftoneScreens x = with(3, 1, -1, 3, 0);
        Due.badState("growth of place 10", () -> x.growth(0, 10, 0));
        Due.badState("growth of place -1", () -> x.growth(0, -1, 1));
        Due.badState("growth in an empty slot", () -> x.growth(1, 0, 1));
        Due.badArgument("growth 2", () -> x.growth(0, 0, 2));
        Due.badArgument("growth -1 of place 10", () -> x.growth(0, 10, -1));
        Due.badArgument("growth 2 in an empty slot", () -> x.growth(2, 0, 2));
        Due.outOfSlots("growth in slot 3", () -> x.growth(3, -1, 2));
        Due.outOfSlots("growth in slot -1", () -> x.growth(-1, 0, 0));
    }

    private static void promise16() {
        HalftoneScreens x = with(3, 1, -1, 3, 0);
        Due.same("placeOf(0, 0)", x.placeOf(0, 0), 0);
        Due.same("placeOf(0, 9)", x.placeOf(0, 9), 5);
        Due.badState("placeOf(0, 10)", () -> x.placeOf(0, 10));
        Due.badState("placeOf(0, -1)", () -> x.placeOf(0, -1));
        Due.badState("placeOf(1, 0)", () -> x.placeOf(1, 0));
        Due.outOfSlots("placeOf(3, 10)", () -> x.placeOf(3, 10));
        Due.outOfSlots("placeOf(-1, 0)", () -> x.placeOf(-1, 0));
        x.setScreen(0, 8, 0, 0, 8, 0);
        x.setScreen(0, 1, 0, 0, 1, 0);
        Due.badState("placeOf(0, 1) after a greater screen", () -> x.placeOf(0, 1));
    }

    private static void promise17() {
        HalftoneScreens x = new HalftoneScreens();
        Due.same("pixel without screens", x.pixel(0, 0), 0);
        x.setScreen(0, 3, 1, -1, 3, 0);
        x.setScreen(2, 4, 0, 0, 4, 0);
        Due.same("pixel without tints", x.pixel(0, 0), 0);
        x.setTint(0, 4);
        x.setTint(2, 2);
        Due.same("pixel(0, 0)", x.pixel(0, 0), 5);
        Due.same("pixel(3, 1)", x.pixel(3, 1), 1);
        Due.same("pixel(4, 0)", x.pixel(4, 0), 4);
        Due.same("pixel(9, 0)", x.pixel(9, 0), 4);
        Due.same("pixel(2, 0)", x.pixel(2, 0), 0);
        Due.same("pixel(-10000, 10000)", x.pixel(-10000, 10000), 5);
        x.setScreen(1, 1, 0, 0, 1, 0);
        x.setTint(1, 1);
        Due.same("pixel(0, 0) of three", x.pixel(0, 0), 7);
        Due.same("pixel(2, 0) of three", x.pixel(2, 0), 2);
        Due.badArgument("pixel(10001, 0)", () -> x.pixel(10001, 0));
        Due.badArgument("pixel(-10001, 0)", () -> x.pixel(-10001, 0));
        Due.badArgument("pixel(0, 10001)", () -> x.pixel(0, 10001));
        Due.badArgument("pixel(0, -10001)", () -> x.pixel(0, -10001));
    }

    private static void promise18() {
        HalftoneScreens x = with(3, 1, -1, 3, 0);
        Due.same("inked without a tint", x.inked(0, 0, 0, 64, 64), 0);
        x.setTint(0, 1);
        Due.same("inked(0, 0, 0, 4, 2)", x.inked(0, 0, 0, 4, 2), 2);
        Due.same("inked(0, -1, 3, 4, 2)", x.inked(0, -1, 3, 4, 2), 2);
        Due.same("inked(0, 0, 0, 2, 4)", x.inked(0, 0, 0, 2, 4), 1);
        Due.same("inked(0, 1, -3, 4, 2)", x.inked(0, 1, -3, 4, 2), 2);
        x.setTint(0, 4);
        Due.same("inked(0, -3, -7, 10, 1)", x.inked(0, -3, -7, 10, 1), 4);
        Due.same("inked(0, 0, 0, 10, 10)", x.inked(0, 0, 0, 10, 10), 40);
        Due.same("inked(0, 0, 0, 2, 1)", x.inked(0, 0, 0, 2, 1), 2);
        Due.same("inked(0, 2, 0, 1, 1)", x.inked(0, 2, 0, 1, 1), 0);
        x.setScreen(0, 8, 0, 0, 1, 0);
        x.setTint(0, 1);
        Due.same("inked(0, 10000, -10000, 64, 3)", x.inked(0, 10000, -10000, 64, 3), 24);
        Due.same("inked(0, -10000, 10000, 1, 64)", x.inked(0, -10000, 10000, 1, 64), 64);
        x.setTint(0, 8);
        Due.same("inked of the whole", x.inked(0, 7, 7, 64, 64), 4096);
        int[][] bad = {{-10001, 0, 1, 1}, {10001, 0, 1, 1}, {0, -10001, 1, 1}, {0, 10001, 1, 1},
            {0, 0, 0, 1}, {0, 0, 65, 1}, {0, 0, 1, 0}, {0, 0, 1, 65}, {0, 0, -1, -1}};
        for (int[] it : bad) {
            Due.badArgument("inked of a bad rectangle", () -> x.inked(0, it[0], it[1], it[2], it[3]));
            Due.badArgument("the same in an empty slot", () -> x.inked(1, it[0], it[1], it[2], it[3]));
            Due.outOfSlots("the same in slot 3", () -> x.inked(3, it[0], it[1], it[2], it[3]));
        }
        Due.badState("inked in an empty slot", () -> x.inked(1, 0, 0, 1, 1));
        Due.outOfSlots("inked in slot -1", () -> x.inked(-1, 0, 0, 1, 1));
    }

    public static void main(String[] args) {
        promise14();
        promise15();
        promise16();
        promise17();
        promise18();
        Due.finish("GrowthTest");
    }
}

/** Promises 19 to 21: dots, joined, firstJoined. */
public final class DotsTest {
    private DotsTest() {
    }

    private static HalftoneScreens with(int a, int b, int c, int d, int spot) {
        HalftoneScreens x = new HalftoneScreens();
        x.setScreen(1, a, b, c, d, spot);
        return x;
    }

    private static void dots(HalftoneScreens x, String name, int... due) {
        for (int steps = 0; steps < due.length; steps++) {
            Due.same(name + ", dots(1, " + steps + ")", x.dots(1, steps), due[steps]);
        }
    }

    private static void joined(HalftoneScreens x, String name, int... due) {
        for (int steps = 0; steps < due.length; steps++) {
            Due.same(name + ", joined(1, " + steps + ")", x.joined(1, steps), due[steps]);
        }
    }

    private static void promise19() {
        dots(with(4, 0, 0, 4, 0), "round", 0, 1, 1, 1, 1, 1, 1, 1, 1, 1, 1, 1, 1, 1, 1, 1, 1);
        HalftoneScreens x = with(2, 2, -2, 2, 3);
        x.setTint(1, 8);
        dots(x, "slanted lines", 0, 1, 2, 1, 1, 1, 1, 1, 1);
        dots(with(1, 0, 0, 1, 0), "area 1", 0, 1);
        HalftoneScreens y = with(1, 0, 0, 4, 4);
        dots(y, "rows", 0, 1, 1, 1, 1);
        refused(y);
    }

    private static void refused(HalftoneScreens x) {
        Due.badArgument("dots(1, -1)", () -> x.dots(1, -1));
        Due.badArgument("dots(1, 5)", () -> x.dots(1, 5));
        Due.badState("dots(0, -1)", () -> x.dots(0, -1));
        Due.outOfSlots("dots(3, 0)", () -> x.dots(3, 0));
        Due.outOfSlots("dots(-1, -1)", () -> x.dots(-1, -1));
        Due.badArgument("joined(1, -1)", () -> x.joined(1, -1));
        Due.badArgument("joined(1, 5)", () -> x.joined(1, 5));
        Due.badState("joined(0, -1)", () -> x.joined(0, -1));
        Due.outOfSlots("joined(3, 0)", () -> x.joined(3, 0));
        Due.outOfSlots("joined(-1, -1)", () -> x.joined(-1, -1));
        Due.badArgument("firstJoined(1, 0)", () -> x.firstJoined(1, 0));
        Due.badArgument("firstJoined(0, 3)", () -> x.firstJoined(0, 3));
        Due.badState("firstJoined(0, 1)", () -> x.firstJoined(0, 1));
        Due.outOfSlots("firstJoined(3, 3)", () -> x.firstJoined(3, 3));
        Due.outOfSlots("firstJoined(-1, 1)", () -> x.firstJoined(-1, 1));
    }

    private static void promise20() {
        joined(with(4, 0, 0, 4, 0), "round", 0, 0, 0, 0, 0, 0, 0, 0, 0, 0, 1, 2, 2, 2, 2, 2, 2);
        joined(with(4, 0, 0, 4, 3), "lines", 0, 0, 0, 0, 1, 1, 1, 1, 1, 1, 1, 1, 1, 2, 2, 2, 2);
        joined(with(2, 2, -2, 2, 3), "slanted lines", 0, 0, 0, 0, 1);
        joined(with(1, 0, 0, 1, 0), "area 1", 0, 2);
        joined(with(1, 0, 0, 3, 0), "rows", 0, 1, 1, 2);
        joined(with(3, 1, -1, 3, 0), "area 10", 0, 0, 0, 0, 0, 0, 1, 2, 2, 2, 2);
    }

    private static void first(HalftoneScreens x, String name, int once, int twice) {
        Due.same(name + ", firstJoined(1, 1)", x.firstJoined(1, 1), once);
        Due.same(name + ", firstJoined(1, 2)", x.firstJoined(1, 2), twice);
    }

    private static void promise21() {
        first(with(4, 0, 0, 4, 0), "round", 10, 11);
        first(with(4, 0, 0, 4, 3), "lines", 4, 13);
        first(with(1, 0, 0, 1, 0), "area 1", 1, 1);
        first(with(1, 0, 0, 3, 0), "rows", 1, 3);
        first(with(0, 2, 1, 0, 0), "area 2", 1, 2);
        first(with(3, 1, -1, 3, 0), "area 10", 6, 7);
    }

    public static void main(String[] args) {
        promise19();
        promise20();
        promise21();
        Due.finish("DotsTest");
    }
}

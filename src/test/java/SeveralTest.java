/** Promises 25 to 28: period, beat, mixture, nearest. */
public final class SeveralTest {
    private SeveralTest() {
    }

    private static void period(HalftoneScreens x, int slots, int... due) {
        for (int what = 0; what < 4; what++) {
            Due.same("period(" + slots + ", " + what + ")", x.period(slots, what), due[what]);
        }
    }

    private static void beat(HalftoneScreens x, int one, int other, int... due) {
        for (int what = 0; what < 4; what++) {
            Due.same("beat(" + one + ", " + other + ", " + what + ")", x.beat(one, other, what), due[what]);
            Due.same("beat(" + other + ", " + one + ", " + what + ")", x.beat(other, one, what), due[what]);
        }
    }

    private static HalftoneScreens three() {
        HalftoneScreens x = new HalftoneScreens();
        x.setScreen(0, 3, 1, -1, 3, 0);
        x.setScreen(1, 4, 0, 0, 4, 0);
        x.setScreen(2, 2, 2, -2, 2, 0);
        return x;
    }

    private static void promise25() {
        HalftoneScreens x = three();
        period(x, 1, 10, 10, 3, 1);
        period(x, 2, 16, 4, 0, 4);
        period(x, 4, 8, 4, 2, 2);
        period(x, 3, 80, 20, 12, 4);
        period(x, 6, 16, 4, 0, 4);
        period(x, 7, 80, 20, 12, 4);
        x.setScreen(0, 3, 2, -2, 4, 0);
        x.setScreen(1, 5, 2, 1, 4, 0);
        x.setScreen(2, 2, 6, 4, -3, 0);
        period(x, 3, 144, 72, 59, 2);
        period(x, 5, 480, 40, 34, 12);
        period(x, 6, 540, 90, 42, 6);
        beat(x, 0, 1, 2, 1, 0, 2);
        beat(x, 0, 2, 1, 1, 0, 1);
        x.setScreen(0, 8, 7, 2, -6, 0);
        x.setScreen(1, 8, 5, 1, 8, 0);
        x.setScreen(2, 7, -2, 1, 8, 0);
        period(x, 7, 62 * 59 * 58, 62 * 59 * 29, 96244, 2);
        x.remove(1);
        Due.badState("period(2, 0)", () -> x.period(2, 0));
        Due.badState("period(7, 0)", () -> x.period(7, 0));
        Due.same("period(5, 0)", x.period(5, 0), 62 * 58 / x.beat(0, 2, 0));
        Due.badArgument("period(0, 0)", () -> x.period(0, 0));
        Due.badArgument("period(8, 0)", () -> x.period(8, 0));
        Due.badArgument("period(-1, 0)", () -> x.period(-1, 0));
        Due.badArgument("period(2, 4)", () -> x.period(2, 4));
        Due.badArgument("period(2, -1)", () -> x.period(2, -1));
    }

    private static void promise26() {
        HalftoneScreens x = three();
        beat(x, 0, 1, 2, 2, 1, 1);
        beat(x, 1, 2, 8, 4, 2, 2);
        beat(x, 0, 0, 10, 10, 3, 1);
        x.setScreen(1, 6, 2, -2, 6, 0);
        beat(x, 0, 1, 10, 10, 3, 1);
        x.setScreen(2, 6, 0, 0, 6, 0);
        x.setScreen(1, 4, 4, -4, 4, 0);
        beat(x, 1, 2, 4, 2, 0, 2);
        x.remove(1);
        Due.badState("beat(0, 1, 0)", () -> x.beat(0, 1, 0));
        Due.badState("beat(1, 0, 0)", () -> x.beat(1, 0, 0));
        Due.badState("beat(1, 1, 0)", () -> x.beat(1, 1, 0));
        Due.badArgument("beat(0, 1, 4)", () -> x.beat(0, 1, 4));
        Due.badArgument("beat(0, 2, -1)", () -> x.beat(0, 2, -1));
        Due.outOfSlots("beat(3, 0, 4)", () -> x.beat(3, 0, 4));
        Due.outOfSlots("beat(0, 3, 4)", () -> x.beat(0, 3, 4));
        Due.outOfSlots("beat(-1, 0, 0)", () -> x.beat(-1, 0, 0));
        Due.outOfSlots("beat(1, -1, 0)", () -> x.beat(1, -1, 0));
    }

    private static void mixture(HalftoneScreens x, int... due) {
        for (int inks = 0; inks < due.length; inks++) {
            Due.same("mixture(" + inks + ")", x.mixture(inks), due[inks]);
        }
    }

    private static void promise27() {
        HalftoneScreens x = new HalftoneScreens();
        Due.badState("mixture without screens", () -> x.mixture(0));
        Due.badArgument("mixture(8) without screens", () -> x.mixture(8));
        Due.badArgument("mixture(-1) without screens", () -> x.mixture(-1));
        x.setScreen(0, 3, 0, 0, 3, 0);
        x.setScreen(2, 4, 0, 0, 4, 0);
        mixture(x, 144, 0, 0, 0, 0, 0, 0, 0);
        x.setTint(0, 2);
        x.setTint(2, 5);
        mixture(x, 77, 22, 0, 0, 35, 10, 0, 0);
        x.setScreen(1, 3, 0, 0, 3, 0);
        x.setTint(1, 9);
        mixture(x, 0, 0, 77, 22, 0, 0, 35, 10);
        x.setScreen(0, 8, 1, 0, 8, 0);
        x.setScreen(1, 1, 8, 8, 0, 0);
        x.setScreen(2, 1, 0, 0, 1, 0);
        Due.same("the greatest period", x.period(7, 0), 4096);
        x.setTint(0, 16);
        x.setTint(1, 32);
        mixture(x, 1536, 512, 1536, 512);
        x.setScreen(0, 8, 0, 0, 8, 0);
        x.setScreen(1, 7, 0, 0, 7, 0);
        x.setScreen(2, 2, 0, 0, 1, 0);
        Due.same("a period of 3136", x.mixture(0), 3136);
        x.setScreen(2, 3, 0, 0, 1, 0);
        Due.badState("a period of 9408", () -> x.mixture(0));
        Due.badArgument("mixture(8) with a great period", () -> x.mixture(8));
    }

    private static void near(int p, int q, int most, int... due) {
        HalftoneScreens x = new HalftoneScreens();
        for (int what = 0; what < 3; what++) {
            Due.same("nearest(" + p + ", " + q + ", " + most + ", " + what + ")", x.nearest(p, q, most, what), due[what]);
        }
    }

    private static void promise28() {
        near(1, 2, 128, 2, 1, 0);
        near(0, 1000, 128, 1, 0, 0);
        near(1, 1, 1, 1, 0, 1);
        near(1, 1, 2, 1, 1, 0);
        near(1000, 1, 1, 1, 0, 1000);
        near(1000, 1, 128, 1, 8, 992);
        near(8, 7, 112, 6, 7, 1);
        near(8, 7, 113, 7, 8, 0);
        near(577, 1000, 128, 7, 4, 39);
        near(268, 1000, 128, 7, 2, 124);
        near(268, 1000, 52, 4, 1, 72);
        HalftoneScreens x = new HalftoneScreens();
        int[][] bad = {{-1, 1, 1, 0}, {1001, 1, 1, 0}, {0, 0, 1, 0}, {0, 1001, 1, 0}, {0, -1, 1, 0},
            {0, 1, 0, 0}, {0, 1, 129, 0}, {0, 1, 1, -1}, {0, 1, 1, 3}};
        for (int[] it : bad) {
            Due.badArgument("nearest " + it[0] + " " + it[1] + " " + it[2] + " " + it[3],
                () -> x.nearest(it[0], it[1], it[2], it[3]));
        }
    }

    public static void main(String[] args) {
        promise25();
        promise26();
        promise27();
        promise28();
        Due.finish("SeveralTest");
    }
}
